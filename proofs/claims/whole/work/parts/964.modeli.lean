/-! ===== rows laid element by element ===== -/
def qn_ro (L : List Int32) (k : Nat) : Nat → Int32 := fun i => if i < k then L.getD i 0 else 0
theorem qn_ro_0 (L : List Int32) : qn_ro L 0 = fun _ => 0 := funext fun i => if_neg (Nat.not_lt_zero i)
theorem qn_ro_upd {L : List Int32} {k i : Nat} {x : Int32} (hi : i = k) (hx : x = L.getD k 0) : upd (qn_ro L k) i x = qn_ro L (k + 1) := by
  subst hi
  subst hx
  funext j
  by_cases e : j = i
  · subst e
    show (if j = j then _ else _) = _
    rw [if_pos rfl]
    show _ = (if j < j + 1 then L.getD j 0 else 0)
    rw [if_pos (by omega)]
  · show (if j = i then _ else _) = _
    rw [if_neg e]
    show (if j < i then L.getD j 0 else 0) = (if j < i + 1 then L.getD j 0 else 0)
    by_cases h : j < i
    · rw [if_pos h, if_pos (by omega)]
    · rw [if_neg h, if_neg (by omega)]
theorem qn_set_self {α : Type} {l : List α} {j : Nat} {x : α} (h : l[j]? = some x) : l.set j x = l := by
  refine List.ext_getElem? (fun i => ?_)
  by_cases e : j = i
  · subst e
    rw [List.getElem?_set_self (List.getElem?_eq_some_iff.mp h).1, h]
  · rw [List.getElem?_set_ne e]
section QNI
variable {p : Program} {l : Launch} {e : Env} {R : Room} {s : State} {m : MethodId} {args : Array Value} {below : List Frame} {meth : Method} {c : Code} {cc : ByteArray} {D : va_G} {cl : List vw_C} {cA cR : ClassId} {ws : va_W} {A : Nat → Prop} {H0 H : Heap} {locs : List Loc} {cells slots : Nat} {Q : State → Prop} {pc : Nat} {ls : Array Slot} {rest : List Value}
theorem qn_ist (hx : p.tables.exec = Jvm.exec) (hb : c.code = cc) (hK : va_K D cl (qm_ty cA cR) s) {j a n k : Nat} {L : List Int32} (hj : j < ws.length) (hP : va_P D cl (ws.set j (a, .inl (cA, n, .inl (qn_ro L k)))) H) (hD : va_D A (ws.set j (a, .inl (cA, n, .inl (qn_ro L k))))) (hS : va_S A H0 H locs) {i x : Int32} (h0 : ¬ i < 0) (hi : i.toNatClampNeg = k) (hk : k < n) (hv : x = L.getD k 0) (hdg : decode cc pc = .ok (.iastore, 1))
    (kk : ∀ (H1 : Heap) (locs1 : List Loc), va_P D cl (ws.set j (a, .inl (cA, n, .inl (qn_ro L (k + 1))))) H1 → va_D A (ws.set j (a, .inl (cA, n, .inl (qn_ro L (k + 1))))) → va_S A H0 H1 locs1 → W p l e R s m args below meth c H1 locs1 cells slots Q (F0 m (pc + 1) ls rest)) : W p l e R s m args below meth c H locs cells slots Q (F0 m pc ls (.int x :: .int i :: .ref a :: rest)) := by
  refine va_iast hx hb hK hP hD hS j 0 (List.getElem?_set_self hj) rfl (fun h => by rcases h with h | h; exact h0 h; omega) hdg (fun H1 locs1 hP1 hD1 hS1 => ?_)
  rw [List.set_set, qn_ro_upd hi hv] at hP1 hD1
  exact kk H1 locs1 hP1 hD1 hS1
end QNI

def qn_L51 : List Int32 := [(-1), (-1), (-1), (-1)]
set_option maxHeartbeats 4000000 in
set_option maxRecDepth 20000 in
theorem qn_seg51 {p : Program} {l : Launch} {e : Env} {R : Room} {s : State} {m : MethodId} {args : Array Value} {below : List Frame} {meth : Method} {c : Code} {D : va_G} {cl : List vw_C} {cA cR : ClassId} {ws : va_W} {A : Nat → Prop} {H0 H : Heap} {locs : List Loc} {cells slots : Nat} {Q : State → Prop} {ls : Array Slot} {rest : List Value} (hx : p.tables.exec = Jvm.exec) (hb : c.code = cX9_init) (hK : va_K D cl (qm_ty cA cR) s) {j a : Nat} (hj : ws[j]? = some (a, .inl (cA, 4, .inl (fun _ => 0)))) (hP : va_P D cl ws H) (hD : va_D A ws) (hS : va_S A H0 H locs)
    (kk : ∀ (H1 : Heap) (locs1 : List Loc), va_P D cl (ws.set j (a, .inl (cA, 4, .inl (qn_ro qn_L51 4)))) H1 → va_D A (ws.set j (a, .inl (cA, 4, .inl (qn_ro qn_L51 4)))) → va_S A H0 H1 locs1 → W p l e R s m args below meth c H1 locs1 cells slots Q (F0 m 98 ls (.ref a :: rest))) : W p l e R s m args below meth c H locs cells slots Q (F0 m 82 ls (.ref a :: rest)) := by
  have hjl := (List.getElem?_eq_some_iff.mp hj).1
  have e0 : ws.set j (a, .inl (cA, 4, .inl (qn_ro qn_L51 0))) = ws := by rw [qn_ro_0]; exact qn_set_self hj
  have hP : va_P D cl (ws.set j (a, .inl (cA, 4, .inl (qn_ro qn_L51 0)))) H := by rw [e0]; exact hP
  have hD : va_D A (ws.set j (a, .inl (cA, 4, .inl (qn_ro qn_L51 0)))) := by rw [e0]; exact hD
  refine lv_dup hx hb dX9_init_82 rfl ?_
  refine lv_iconst hx hb dX9_init_83 rfl ?_
  refine lv_iconst hx hb dX9_init_84 rfl ?_
  refine qn_ist hx hb hK hjl hP hD hS (k := 0) (by decide) rfl (by decide) (by decide +kernel) dX9_init_85 (fun H locs hP hD hS => ?_)
  refine lv_dup hx hb dX9_init_86 rfl ?_
  refine lv_iconst hx hb dX9_init_87 rfl ?_
  refine lv_iconst hx hb dX9_init_88 rfl ?_
  refine qn_ist hx hb hK hjl hP hD hS (k := 1) (by decide) rfl (by decide) (by decide +kernel) dX9_init_89 (fun H locs hP hD hS => ?_)
  refine lv_dup hx hb dX9_init_90 rfl ?_
  refine lv_iconst hx hb dX9_init_91 rfl ?_
  refine lv_iconst hx hb dX9_init_92 rfl ?_
  refine qn_ist hx hb hK hjl hP hD hS (k := 2) (by decide) rfl (by decide) (by decide +kernel) dX9_init_93 (fun H locs hP hD hS => ?_)
  refine lv_dup hx hb dX9_init_94 rfl ?_
  refine lv_iconst hx hb dX9_init_95 rfl ?_
  refine lv_iconst hx hb dX9_init_96 rfl ?_
  refine qn_ist hx hb hK hjl hP hD hS (k := 3) (by decide) rfl (by decide) (by decide +kernel) dX9_init_97 (fun H locs hP hD hS => ?_)
  exact kk H locs hP hD hS

def qn_L54 : List Int32 := [119, 111, 114, 116, 104, 32, 50, 48, 32, 45, 32, 99, 111, 108, 111, 117, 114, 32, 42, 32, 52, 32, 59, 32, 119, 97, 105, 116, 115, 32, 111, 114, 100, 101, 114, 32, 59, 32, 109, 111, 118, 101, 115, 32, 49, 32, 59]
set_option maxHeartbeats 4000000 in
set_option maxRecDepth 20000 in
theorem qn_seg54 {p : Program} {l : Launch} {e : Env} {R : Room} {s : State} {m : MethodId} {args : Array Value} {below : List Frame} {meth : Method} {c : Code} {D : va_G} {cl : List vw_C} {cA cR : ClassId} {ws : va_W} {A : Nat → Prop} {H0 H : Heap} {locs : List Loc} {cells slots : Nat} {Q : State → Prop} {ls : Array Slot} {rest : List Value} (hx : p.tables.exec = Jvm.exec) (hb : c.code = cX9_init) (hK : va_K D cl (qm_ty cA cR) s) {j a : Nat} (hj : ws[j]? = some (a, .inl (cA, 47, .inl (fun _ => 0)))) (hP : va_P D cl ws H) (hD : va_D A ws) (hS : va_S A H0 H locs)
    (kk : ∀ (H1 : Heap) (locs1 : List Loc), va_P D cl (ws.set j (a, .inl (cA, 47, .inl (qn_ro qn_L54 47)))) H1 → va_D A (ws.set j (a, .inl (cA, 47, .inl (qn_ro qn_L54 47)))) → va_S A H0 H1 locs1 → W p l e R s m args below meth c H1 locs1 cells slots Q (F0 m 398 ls (.ref a :: rest))) : W p l e R s m args below meth c H locs cells slots Q (F0 m 122 ls (.ref a :: rest)) := by
  have hjl := (List.getElem?_eq_some_iff.mp hj).1
  have e0 : ws.set j (a, .inl (cA, 47, .inl (qn_ro qn_L54 0))) = ws := by rw [qn_ro_0]; exact qn_set_self hj
  have hP : va_P D cl (ws.set j (a, .inl (cA, 47, .inl (qn_ro qn_L54 0)))) H := by rw [e0]; exact hP
  have hD : va_D A (ws.set j (a, .inl (cA, 47, .inl (qn_ro qn_L54 0)))) := by rw [e0]; exact hD
  refine lv_dup hx hb dX9_init_122 rfl ?_
  refine lv_iconst hx hb dX9_init_123 rfl ?_
  refine lv_bipush hx hb dX9_init_124 rfl ?_
  refine qn_ist hx hb hK hjl hP hD hS (k := 0) (by decide) rfl (by decide) (by decide +kernel) dX9_init_126 (fun H locs hP hD hS => ?_)
  refine lv_dup hx hb dX9_init_127 rfl ?_
  refine lv_iconst hx hb dX9_init_128 rfl ?_
  refine lv_bipush hx hb dX9_init_129 rfl ?_
  refine qn_ist hx hb hK hjl hP hD hS (k := 1) (by decide) rfl (by decide) (by decide +kernel) dX9_init_131 (fun H locs hP hD hS => ?_)
  refine lv_dup hx hb dX9_init_132 rfl ?_
  refine lv_iconst hx hb dX9_init_133 rfl ?_
  refine lv_bipush hx hb dX9_init_134 rfl ?_
  refine qn_ist hx hb hK hjl hP hD hS (k := 2) (by decide) rfl (by decide) (by decide +kernel) dX9_init_136 (fun H locs hP hD hS => ?_)
  refine lv_dup hx hb dX9_init_137 rfl ?_
  refine lv_iconst hx hb dX9_init_138 rfl ?_
  refine lv_bipush hx hb dX9_init_139 rfl ?_
  refine qn_ist hx hb hK hjl hP hD hS (k := 3) (by decide) rfl (by decide) (by decide +kernel) dX9_init_141 (fun H locs hP hD hS => ?_)
  refine lv_dup hx hb dX9_init_142 rfl ?_
  refine lv_iconst hx hb dX9_init_143 rfl ?_
  refine lv_bipush hx hb dX9_init_144 rfl ?_
  refine qn_ist hx hb hK hjl hP hD hS (k := 4) (by decide) rfl (by decide) (by decide +kernel) dX9_init_146 (fun H locs hP hD hS => ?_)
  refine lv_dup hx hb dX9_init_147 rfl ?_
  refine lv_iconst hx hb dX9_init_148 rfl ?_
  refine lv_bipush hx hb dX9_init_149 rfl ?_
  refine qn_ist hx hb hK hjl hP hD hS (k := 5) (by decide) rfl (by decide) (by decide +kernel) dX9_init_151 (fun H locs hP hD hS => ?_)
  refine lv_dup hx hb dX9_init_152 rfl ?_
  refine lv_bipush hx hb dX9_init_153 rfl ?_
  refine lv_bipush hx hb dX9_init_155 rfl ?_
  refine qn_ist hx hb hK hjl hP hD hS (k := 6) (by decide) rfl (by decide) (by decide +kernel) dX9_init_157 (fun H locs hP hD hS => ?_)
  refine lv_dup hx hb dX9_init_158 rfl ?_
  refine lv_bipush hx hb dX9_init_159 rfl ?_
  refine lv_bipush hx hb dX9_init_161 rfl ?_
  refine qn_ist hx hb hK hjl hP hD hS (k := 7) (by decide) rfl (by decide) (by decide +kernel) dX9_init_163 (fun H locs hP hD hS => ?_)
  refine lv_dup hx hb dX9_init_164 rfl ?_
  refine lv_bipush hx hb dX9_init_165 rfl ?_
  refine lv_bipush hx hb dX9_init_167 rfl ?_
  refine qn_ist hx hb hK hjl hP hD hS (k := 8) (by decide) rfl (by decide) (by decide +kernel) dX9_init_169 (fun H locs hP hD hS => ?_)
  refine lv_dup hx hb dX9_init_170 rfl ?_
  refine lv_bipush hx hb dX9_init_171 rfl ?_
  refine lv_bipush hx hb dX9_init_173 rfl ?_
  refine qn_ist hx hb hK hjl hP hD hS (k := 9) (by decide) rfl (by decide) (by decide +kernel) dX9_init_175 (fun H locs hP hD hS => ?_)
  refine lv_dup hx hb dX9_init_176 rfl ?_
  refine lv_bipush hx hb dX9_init_177 rfl ?_
  refine lv_bipush hx hb dX9_init_179 rfl ?_
  refine qn_ist hx hb hK hjl hP hD hS (k := 10) (by decide) rfl (by decide) (by decide +kernel) dX9_init_181 (fun H locs hP hD hS => ?_)
  refine lv_dup hx hb dX9_init_182 rfl ?_
  refine lv_bipush hx hb dX9_init_183 rfl ?_
  refine lv_bipush hx hb dX9_init_185 rfl ?_
  refine qn_ist hx hb hK hjl hP hD hS (k := 11) (by decide) rfl (by decide) (by decide +kernel) dX9_init_187 (fun H locs hP hD hS => ?_)
  refine lv_dup hx hb dX9_init_188 rfl ?_
  refine lv_bipush hx hb dX9_init_189 rfl ?_
  refine lv_bipush hx hb dX9_init_191 rfl ?_
  refine qn_ist hx hb hK hjl hP hD hS (k := 12) (by decide) rfl (by decide) (by decide +kernel) dX9_init_193 (fun H locs hP hD hS => ?_)
  refine lv_dup hx hb dX9_init_194 rfl ?_
  refine lv_bipush hx hb dX9_init_195 rfl ?_
  refine lv_bipush hx hb dX9_init_197 rfl ?_
  refine qn_ist hx hb hK hjl hP hD hS (k := 13) (by decide) rfl (by decide) (by decide +kernel) dX9_init_199 (fun H locs hP hD hS => ?_)
  refine lv_dup hx hb dX9_init_200 rfl ?_
  refine lv_bipush hx hb dX9_init_201 rfl ?_
  refine lv_bipush hx hb dX9_init_203 rfl ?_
  refine qn_ist hx hb hK hjl hP hD hS (k := 14) (by decide) rfl (by decide) (by decide +kernel) dX9_init_205 (fun H locs hP hD hS => ?_)
  refine lv_dup hx hb dX9_init_206 rfl ?_
  refine lv_bipush hx hb dX9_init_207 rfl ?_
  refine lv_bipush hx hb dX9_init_209 rfl ?_
  refine qn_ist hx hb hK hjl hP hD hS (k := 15) (by decide) rfl (by decide) (by decide +kernel) dX9_init_211 (fun H locs hP hD hS => ?_)
  refine lv_dup hx hb dX9_init_212 rfl ?_
  refine lv_bipush hx hb dX9_init_213 rfl ?_
  refine lv_bipush hx hb dX9_init_215 rfl ?_
  refine qn_ist hx hb hK hjl hP hD hS (k := 16) (by decide) rfl (by decide) (by decide +kernel) dX9_init_217 (fun H locs hP hD hS => ?_)
  refine lv_dup hx hb dX9_init_218 rfl ?_
  refine lv_bipush hx hb dX9_init_219 rfl ?_
  refine lv_bipush hx hb dX9_init_221 rfl ?_
  refine qn_ist hx hb hK hjl hP hD hS (k := 17) (by decide) rfl (by decide) (by decide +kernel) dX9_init_223 (fun H locs hP hD hS => ?_)
  refine lv_dup hx hb dX9_init_224 rfl ?_
  refine lv_bipush hx hb dX9_init_225 rfl ?_
  refine lv_bipush hx hb dX9_init_227 rfl ?_
  refine qn_ist hx hb hK hjl hP hD hS (k := 18) (by decide) rfl (by decide) (by decide +kernel) dX9_init_229 (fun H locs hP hD hS => ?_)
  refine lv_dup hx hb dX9_init_230 rfl ?_
  refine lv_bipush hx hb dX9_init_231 rfl ?_
  refine lv_bipush hx hb dX9_init_233 rfl ?_
  refine qn_ist hx hb hK hjl hP hD hS (k := 19) (by decide) rfl (by decide) (by decide +kernel) dX9_init_235 (fun H locs hP hD hS => ?_)
  refine lv_dup hx hb dX9_init_236 rfl ?_
  refine lv_bipush hx hb dX9_init_237 rfl ?_
  refine lv_bipush hx hb dX9_init_239 rfl ?_
  refine qn_ist hx hb hK hjl hP hD hS (k := 20) (by decide) rfl (by decide) (by decide +kernel) dX9_init_241 (fun H locs hP hD hS => ?_)
  refine lv_dup hx hb dX9_init_242 rfl ?_
  refine lv_bipush hx hb dX9_init_243 rfl ?_
  refine lv_bipush hx hb dX9_init_245 rfl ?_
  refine qn_ist hx hb hK hjl hP hD hS (k := 21) (by decide) rfl (by decide) (by decide +kernel) dX9_init_247 (fun H locs hP hD hS => ?_)
  refine lv_dup hx hb dX9_init_248 rfl ?_
  refine lv_bipush hx hb dX9_init_249 rfl ?_
  refine lv_bipush hx hb dX9_init_251 rfl ?_
  refine qn_ist hx hb hK hjl hP hD hS (k := 22) (by decide) rfl (by decide) (by decide +kernel) dX9_init_253 (fun H locs hP hD hS => ?_)
  refine lv_dup hx hb dX9_init_254 rfl ?_
  refine lv_bipush hx hb dX9_init_255 rfl ?_
  refine lv_bipush hx hb dX9_init_257 rfl ?_
  refine qn_ist hx hb hK hjl hP hD hS (k := 23) (by decide) rfl (by decide) (by decide +kernel) dX9_init_259 (fun H locs hP hD hS => ?_)
  refine lv_dup hx hb dX9_init_260 rfl ?_
  refine lv_bipush hx hb dX9_init_261 rfl ?_
  refine lv_bipush hx hb dX9_init_263 rfl ?_
  refine qn_ist hx hb hK hjl hP hD hS (k := 24) (by decide) rfl (by decide) (by decide +kernel) dX9_init_265 (fun H locs hP hD hS => ?_)
  refine lv_dup hx hb dX9_init_266 rfl ?_
  refine lv_bipush hx hb dX9_init_267 rfl ?_
  refine lv_bipush hx hb dX9_init_269 rfl ?_
  refine qn_ist hx hb hK hjl hP hD hS (k := 25) (by decide) rfl (by decide) (by decide +kernel) dX9_init_271 (fun H locs hP hD hS => ?_)
  refine lv_dup hx hb dX9_init_272 rfl ?_
  refine lv_bipush hx hb dX9_init_273 rfl ?_
  refine lv_bipush hx hb dX9_init_275 rfl ?_
  refine qn_ist hx hb hK hjl hP hD hS (k := 26) (by decide) rfl (by decide) (by decide +kernel) dX9_init_277 (fun H locs hP hD hS => ?_)
  refine lv_dup hx hb dX9_init_278 rfl ?_
  refine lv_bipush hx hb dX9_init_279 rfl ?_
  refine lv_bipush hx hb dX9_init_281 rfl ?_
  refine qn_ist hx hb hK hjl hP hD hS (k := 27) (by decide) rfl (by decide) (by decide +kernel) dX9_init_283 (fun H locs hP hD hS => ?_)
  refine lv_dup hx hb dX9_init_284 rfl ?_
  refine lv_bipush hx hb dX9_init_285 rfl ?_
  refine lv_bipush hx hb dX9_init_287 rfl ?_
  refine qn_ist hx hb hK hjl hP hD hS (k := 28) (by decide) rfl (by decide) (by decide +kernel) dX9_init_289 (fun H locs hP hD hS => ?_)
  refine lv_dup hx hb dX9_init_290 rfl ?_
  refine lv_bipush hx hb dX9_init_291 rfl ?_
  refine lv_bipush hx hb dX9_init_293 rfl ?_
  refine qn_ist hx hb hK hjl hP hD hS (k := 29) (by decide) rfl (by decide) (by decide +kernel) dX9_init_295 (fun H locs hP hD hS => ?_)
  refine lv_dup hx hb dX9_init_296 rfl ?_
  refine lv_bipush hx hb dX9_init_297 rfl ?_
  refine lv_bipush hx hb dX9_init_299 rfl ?_
  refine qn_ist hx hb hK hjl hP hD hS (k := 30) (by decide) rfl (by decide) (by decide +kernel) dX9_init_301 (fun H locs hP hD hS => ?_)
  refine lv_dup hx hb dX9_init_302 rfl ?_
  refine lv_bipush hx hb dX9_init_303 rfl ?_
  refine lv_bipush hx hb dX9_init_305 rfl ?_
  refine qn_ist hx hb hK hjl hP hD hS (k := 31) (by decide) rfl (by decide) (by decide +kernel) dX9_init_307 (fun H locs hP hD hS => ?_)
  refine lv_dup hx hb dX9_init_308 rfl ?_
  refine lv_bipush hx hb dX9_init_309 rfl ?_
  refine lv_bipush hx hb dX9_init_311 rfl ?_
  refine qn_ist hx hb hK hjl hP hD hS (k := 32) (by decide) rfl (by decide) (by decide +kernel) dX9_init_313 (fun H locs hP hD hS => ?_)
  refine lv_dup hx hb dX9_init_314 rfl ?_
  refine lv_bipush hx hb dX9_init_315 rfl ?_
  refine lv_bipush hx hb dX9_init_317 rfl ?_
  refine qn_ist hx hb hK hjl hP hD hS (k := 33) (by decide) rfl (by decide) (by decide +kernel) dX9_init_319 (fun H locs hP hD hS => ?_)
  refine lv_dup hx hb dX9_init_320 rfl ?_
  refine lv_bipush hx hb dX9_init_321 rfl ?_
  refine lv_bipush hx hb dX9_init_323 rfl ?_
  refine qn_ist hx hb hK hjl hP hD hS (k := 34) (by decide) rfl (by decide) (by decide +kernel) dX9_init_325 (fun H locs hP hD hS => ?_)
  refine lv_dup hx hb dX9_init_326 rfl ?_
  refine lv_bipush hx hb dX9_init_327 rfl ?_
  refine lv_bipush hx hb dX9_init_329 rfl ?_
  refine qn_ist hx hb hK hjl hP hD hS (k := 35) (by decide) rfl (by decide) (by decide +kernel) dX9_init_331 (fun H locs hP hD hS => ?_)
  refine lv_dup hx hb dX9_init_332 rfl ?_
  refine lv_bipush hx hb dX9_init_333 rfl ?_
  refine lv_bipush hx hb dX9_init_335 rfl ?_
  refine qn_ist hx hb hK hjl hP hD hS (k := 36) (by decide) rfl (by decide) (by decide +kernel) dX9_init_337 (fun H locs hP hD hS => ?_)
  refine lv_dup hx hb dX9_init_338 rfl ?_
  refine lv_bipush hx hb dX9_init_339 rfl ?_
  refine lv_bipush hx hb dX9_init_341 rfl ?_
  refine qn_ist hx hb hK hjl hP hD hS (k := 37) (by decide) rfl (by decide) (by decide +kernel) dX9_init_343 (fun H locs hP hD hS => ?_)
  refine lv_dup hx hb dX9_init_344 rfl ?_
  refine lv_bipush hx hb dX9_init_345 rfl ?_
  refine lv_bipush hx hb dX9_init_347 rfl ?_
  refine qn_ist hx hb hK hjl hP hD hS (k := 38) (by decide) rfl (by decide) (by decide +kernel) dX9_init_349 (fun H locs hP hD hS => ?_)
  refine lv_dup hx hb dX9_init_350 rfl ?_
  refine lv_bipush hx hb dX9_init_351 rfl ?_
  refine lv_bipush hx hb dX9_init_353 rfl ?_
  refine qn_ist hx hb hK hjl hP hD hS (k := 39) (by decide) rfl (by decide) (by decide +kernel) dX9_init_355 (fun H locs hP hD hS => ?_)
  refine lv_dup hx hb dX9_init_356 rfl ?_
  refine lv_bipush hx hb dX9_init_357 rfl ?_
  refine lv_bipush hx hb dX9_init_359 rfl ?_
  refine qn_ist hx hb hK hjl hP hD hS (k := 40) (by decide) rfl (by decide) (by decide +kernel) dX9_init_361 (fun H locs hP hD hS => ?_)
  refine lv_dup hx hb dX9_init_362 rfl ?_
  refine lv_bipush hx hb dX9_init_363 rfl ?_
  refine lv_bipush hx hb dX9_init_365 rfl ?_
  refine qn_ist hx hb hK hjl hP hD hS (k := 41) (by decide) rfl (by decide) (by decide +kernel) dX9_init_367 (fun H locs hP hD hS => ?_)
  refine lv_dup hx hb dX9_init_368 rfl ?_
  refine lv_bipush hx hb dX9_init_369 rfl ?_
  refine lv_bipush hx hb dX9_init_371 rfl ?_
  refine qn_ist hx hb hK hjl hP hD hS (k := 42) (by decide) rfl (by decide) (by decide +kernel) dX9_init_373 (fun H locs hP hD hS => ?_)
  refine lv_dup hx hb dX9_init_374 rfl ?_
  refine lv_bipush hx hb dX9_init_375 rfl ?_
  refine lv_bipush hx hb dX9_init_377 rfl ?_
  refine qn_ist hx hb hK hjl hP hD hS (k := 43) (by decide) rfl (by decide) (by decide +kernel) dX9_init_379 (fun H locs hP hD hS => ?_)
  refine lv_dup hx hb dX9_init_380 rfl ?_
  refine lv_bipush hx hb dX9_init_381 rfl ?_
  refine lv_bipush hx hb dX9_init_383 rfl ?_
  refine qn_ist hx hb hK hjl hP hD hS (k := 44) (by decide) rfl (by decide) (by decide +kernel) dX9_init_385 (fun H locs hP hD hS => ?_)
  refine lv_dup hx hb dX9_init_386 rfl ?_
  refine lv_bipush hx hb dX9_init_387 rfl ?_
  refine lv_bipush hx hb dX9_init_389 rfl ?_
  refine qn_ist hx hb hK hjl hP hD hS (k := 45) (by decide) rfl (by decide) (by decide +kernel) dX9_init_391 (fun H locs hP hD hS => ?_)
  refine lv_dup hx hb dX9_init_392 rfl ?_
  refine lv_bipush hx hb dX9_init_393 rfl ?_
  refine lv_bipush hx hb dX9_init_395 rfl ?_
  refine qn_ist hx hb hK hjl hP hD hS (k := 46) (by decide) rfl (by decide) (by decide +kernel) dX9_init_397 (fun H locs hP hD hS => ?_)
  exact kk H locs hP hD hS

def qn_L55 : List Int32 := [119, 111, 114, 116, 104, 32, 32, 32, 119, 97, 105, 116, 115, 32, 32, 32, 109, 111, 118, 101, 115, 32, 32, 32, 99, 111, 108, 111, 117, 114, 32, 32, 108, 111, 116, 32, 32, 32, 32, 32, 98, 101, 115, 105, 100, 101, 32, 32, 111, 114, 100, 101, 114, 32, 32, 32, 109, 111, 114, 101, 32, 32, 32, 32, 108, 111, 116, 115, 32, 32, 32, 32, 111, 114, 32, 32, 32, 32, 32, 32, 97, 110, 100, 32, 32, 32, 32, 32, 110, 111, 116, 32, 32, 32, 32, 32]
set_option maxHeartbeats 4000000 in
set_option maxRecDepth 20000 in
theorem qn_seg55 {p : Program} {l : Launch} {e : Env} {R : Room} {s : State} {m : MethodId} {args : Array Value} {below : List Frame} {meth : Method} {c : Code} {D : va_G} {cl : List vw_C} {cA cR : ClassId} {ws : va_W} {A : Nat → Prop} {H0 H : Heap} {locs : List Loc} {cells slots : Nat} {Q : State → Prop} {ls : Array Slot} {rest : List Value} (hx : p.tables.exec = Jvm.exec) (hb : c.code = cX9_init) (hK : va_K D cl (qm_ty cA cR) s) {j a : Nat} (hj : ws[j]? = some (a, .inl (cA, 96, .inl (fun _ => 0)))) (hP : va_P D cl ws H) (hD : va_D A ws) (hS : va_S A H0 H locs)
    (kk : ∀ (H1 : Heap) (locs1 : List Loc), va_P D cl (ws.set j (a, .inl (cA, 96, .inl (qn_ro qn_L55 96)))) H1 → va_D A (ws.set j (a, .inl (cA, 96, .inl (qn_ro qn_L55 96)))) → va_S A H0 H1 locs1 → W p l e R s m args below meth c H1 locs1 cells slots Q (F0 m 976 ls (.ref a :: rest))) : W p l e R s m args below meth c H locs cells slots Q (F0 m 406 ls (.ref a :: rest)) := by
  have hjl := (List.getElem?_eq_some_iff.mp hj).1
  have e0 : ws.set j (a, .inl (cA, 96, .inl (qn_ro qn_L55 0))) = ws := by rw [qn_ro_0]; exact qn_set_self hj
  have hP : va_P D cl (ws.set j (a, .inl (cA, 96, .inl (qn_ro qn_L55 0)))) H := by rw [e0]; exact hP
  have hD : va_D A (ws.set j (a, .inl (cA, 96, .inl (qn_ro qn_L55 0)))) := by rw [e0]; exact hD
  refine lv_dup hx hb dX9_init_406 rfl ?_
  refine lv_iconst hx hb dX9_init_407 rfl ?_
  refine lv_bipush hx hb dX9_init_408 rfl ?_
  refine qn_ist hx hb hK hjl hP hD hS (k := 0) (by decide) rfl (by decide) (by decide +kernel) dX9_init_410 (fun H locs hP hD hS => ?_)
  refine lv_dup hx hb dX9_init_411 rfl ?_
  refine lv_iconst hx hb dX9_init_412 rfl ?_
  refine lv_bipush hx hb dX9_init_413 rfl ?_
  refine qn_ist hx hb hK hjl hP hD hS (k := 1) (by decide) rfl (by decide) (by decide +kernel) dX9_init_415 (fun H locs hP hD hS => ?_)
  refine lv_dup hx hb dX9_init_416 rfl ?_
  refine lv_iconst hx hb dX9_init_417 rfl ?_
  refine lv_bipush hx hb dX9_init_418 rfl ?_
  refine qn_ist hx hb hK hjl hP hD hS (k := 2) (by decide) rfl (by decide) (by decide +kernel) dX9_init_420 (fun H locs hP hD hS => ?_)
  refine lv_dup hx hb dX9_init_421 rfl ?_
  refine lv_iconst hx hb dX9_init_422 rfl ?_
  refine lv_bipush hx hb dX9_init_423 rfl ?_
  refine qn_ist hx hb hK hjl hP hD hS (k := 3) (by decide) rfl (by decide) (by decide +kernel) dX9_init_425 (fun H locs hP hD hS => ?_)
  refine lv_dup hx hb dX9_init_426 rfl ?_
  refine lv_iconst hx hb dX9_init_427 rfl ?_
  refine lv_bipush hx hb dX9_init_428 rfl ?_
  refine qn_ist hx hb hK hjl hP hD hS (k := 4) (by decide) rfl (by decide) (by decide +kernel) dX9_init_430 (fun H locs hP hD hS => ?_)
  refine lv_dup hx hb dX9_init_431 rfl ?_
  refine lv_iconst hx hb dX9_init_432 rfl ?_
  refine lv_bipush hx hb dX9_init_433 rfl ?_
  refine qn_ist hx hb hK hjl hP hD hS (k := 5) (by decide) rfl (by decide) (by decide +kernel) dX9_init_435 (fun H locs hP hD hS => ?_)
  refine lv_dup hx hb dX9_init_436 rfl ?_
  refine lv_bipush hx hb dX9_init_437 rfl ?_
  refine lv_bipush hx hb dX9_init_439 rfl ?_
  refine qn_ist hx hb hK hjl hP hD hS (k := 6) (by decide) rfl (by decide) (by decide +kernel) dX9_init_441 (fun H locs hP hD hS => ?_)
  refine lv_dup hx hb dX9_init_442 rfl ?_
  refine lv_bipush hx hb dX9_init_443 rfl ?_
  refine lv_bipush hx hb dX9_init_445 rfl ?_
  refine qn_ist hx hb hK hjl hP hD hS (k := 7) (by decide) rfl (by decide) (by decide +kernel) dX9_init_447 (fun H locs hP hD hS => ?_)
  refine lv_dup hx hb dX9_init_448 rfl ?_
  refine lv_bipush hx hb dX9_init_449 rfl ?_
  refine lv_bipush hx hb dX9_init_451 rfl ?_
  refine qn_ist hx hb hK hjl hP hD hS (k := 8) (by decide) rfl (by decide) (by decide +kernel) dX9_init_453 (fun H locs hP hD hS => ?_)
  refine lv_dup hx hb dX9_init_454 rfl ?_
  refine lv_bipush hx hb dX9_init_455 rfl ?_
  refine lv_bipush hx hb dX9_init_457 rfl ?_
  refine qn_ist hx hb hK hjl hP hD hS (k := 9) (by decide) rfl (by decide) (by decide +kernel) dX9_init_459 (fun H locs hP hD hS => ?_)
  refine lv_dup hx hb dX9_init_460 rfl ?_
  refine lv_bipush hx hb dX9_init_461 rfl ?_
  refine lv_bipush hx hb dX9_init_463 rfl ?_
  refine qn_ist hx hb hK hjl hP hD hS (k := 10) (by decide) rfl (by decide) (by decide +kernel) dX9_init_465 (fun H locs hP hD hS => ?_)
  refine lv_dup hx hb dX9_init_466 rfl ?_
  refine lv_bipush hx hb dX9_init_467 rfl ?_
  refine lv_bipush hx hb dX9_init_469 rfl ?_
  refine qn_ist hx hb hK hjl hP hD hS (k := 11) (by decide) rfl (by decide) (by decide +kernel) dX9_init_471 (fun H locs hP hD hS => ?_)
  refine lv_dup hx hb dX9_init_472 rfl ?_
  refine lv_bipush hx hb dX9_init_473 rfl ?_
  refine lv_bipush hx hb dX9_init_475 rfl ?_
  refine qn_ist hx hb hK hjl hP hD hS (k := 12) (by decide) rfl (by decide) (by decide +kernel) dX9_init_477 (fun H locs hP hD hS => ?_)
  refine lv_dup hx hb dX9_init_478 rfl ?_
  refine lv_bipush hx hb dX9_init_479 rfl ?_
  refine lv_bipush hx hb dX9_init_481 rfl ?_
  refine qn_ist hx hb hK hjl hP hD hS (k := 13) (by decide) rfl (by decide) (by decide +kernel) dX9_init_483 (fun H locs hP hD hS => ?_)
  refine lv_dup hx hb dX9_init_484 rfl ?_
  refine lv_bipush hx hb dX9_init_485 rfl ?_
  refine lv_bipush hx hb dX9_init_487 rfl ?_
  refine qn_ist hx hb hK hjl hP hD hS (k := 14) (by decide) rfl (by decide) (by decide +kernel) dX9_init_489 (fun H locs hP hD hS => ?_)
  refine lv_dup hx hb dX9_init_490 rfl ?_
  refine lv_bipush hx hb dX9_init_491 rfl ?_
  refine lv_bipush hx hb dX9_init_493 rfl ?_
  refine qn_ist hx hb hK hjl hP hD hS (k := 15) (by decide) rfl (by decide) (by decide +kernel) dX9_init_495 (fun H locs hP hD hS => ?_)
  refine lv_dup hx hb dX9_init_496 rfl ?_
  refine lv_bipush hx hb dX9_init_497 rfl ?_
  refine lv_bipush hx hb dX9_init_499 rfl ?_
  refine qn_ist hx hb hK hjl hP hD hS (k := 16) (by decide) rfl (by decide) (by decide +kernel) dX9_init_501 (fun H locs hP hD hS => ?_)
  refine lv_dup hx hb dX9_init_502 rfl ?_
  refine lv_bipush hx hb dX9_init_503 rfl ?_
  refine lv_bipush hx hb dX9_init_505 rfl ?_
  refine qn_ist hx hb hK hjl hP hD hS (k := 17) (by decide) rfl (by decide) (by decide +kernel) dX9_init_507 (fun H locs hP hD hS => ?_)
  refine lv_dup hx hb dX9_init_508 rfl ?_
  refine lv_bipush hx hb dX9_init_509 rfl ?_
  refine lv_bipush hx hb dX9_init_511 rfl ?_
  refine qn_ist hx hb hK hjl hP hD hS (k := 18) (by decide) rfl (by decide) (by decide +kernel) dX9_init_513 (fun H locs hP hD hS => ?_)
  refine lv_dup hx hb dX9_init_514 rfl ?_
  refine lv_bipush hx hb dX9_init_515 rfl ?_
  refine lv_bipush hx hb dX9_init_517 rfl ?_
  refine qn_ist hx hb hK hjl hP hD hS (k := 19) (by decide) rfl (by decide) (by decide +kernel) dX9_init_519 (fun H locs hP hD hS => ?_)
  refine lv_dup hx hb dX9_init_520 rfl ?_
  refine lv_bipush hx hb dX9_init_521 rfl ?_
  refine lv_bipush hx hb dX9_init_523 rfl ?_
  refine qn_ist hx hb hK hjl hP hD hS (k := 20) (by decide) rfl (by decide) (by decide +kernel) dX9_init_525 (fun H locs hP hD hS => ?_)
  refine lv_dup hx hb dX9_init_526 rfl ?_
  refine lv_bipush hx hb dX9_init_527 rfl ?_
  refine lv_bipush hx hb dX9_init_529 rfl ?_
  refine qn_ist hx hb hK hjl hP hD hS (k := 21) (by decide) rfl (by decide) (by decide +kernel) dX9_init_531 (fun H locs hP hD hS => ?_)
  refine lv_dup hx hb dX9_init_532 rfl ?_
  refine lv_bipush hx hb dX9_init_533 rfl ?_
  refine lv_bipush hx hb dX9_init_535 rfl ?_
  refine qn_ist hx hb hK hjl hP hD hS (k := 22) (by decide) rfl (by decide) (by decide +kernel) dX9_init_537 (fun H locs hP hD hS => ?_)
  refine lv_dup hx hb dX9_init_538 rfl ?_
  refine lv_bipush hx hb dX9_init_539 rfl ?_
  refine lv_bipush hx hb dX9_init_541 rfl ?_
  refine qn_ist hx hb hK hjl hP hD hS (k := 23) (by decide) rfl (by decide) (by decide +kernel) dX9_init_543 (fun H locs hP hD hS => ?_)
  refine lv_dup hx hb dX9_init_544 rfl ?_
  refine lv_bipush hx hb dX9_init_545 rfl ?_
  refine lv_bipush hx hb dX9_init_547 rfl ?_
  refine qn_ist hx hb hK hjl hP hD hS (k := 24) (by decide) rfl (by decide) (by decide +kernel) dX9_init_549 (fun H locs hP hD hS => ?_)
  refine lv_dup hx hb dX9_init_550 rfl ?_
  refine lv_bipush hx hb dX9_init_551 rfl ?_
  refine lv_bipush hx hb dX9_init_553 rfl ?_
  refine qn_ist hx hb hK hjl hP hD hS (k := 25) (by decide) rfl (by decide) (by decide +kernel) dX9_init_555 (fun H locs hP hD hS => ?_)
  refine lv_dup hx hb dX9_init_556 rfl ?_
  refine lv_bipush hx hb dX9_init_557 rfl ?_
  refine lv_bipush hx hb dX9_init_559 rfl ?_
  refine qn_ist hx hb hK hjl hP hD hS (k := 26) (by decide) rfl (by decide) (by decide +kernel) dX9_init_561 (fun H locs hP hD hS => ?_)
  refine lv_dup hx hb dX9_init_562 rfl ?_
  refine lv_bipush hx hb dX9_init_563 rfl ?_
  refine lv_bipush hx hb dX9_init_565 rfl ?_
  refine qn_ist hx hb hK hjl hP hD hS (k := 27) (by decide) rfl (by decide) (by decide +kernel) dX9_init_567 (fun H locs hP hD hS => ?_)
  refine lv_dup hx hb dX9_init_568 rfl ?_
  refine lv_bipush hx hb dX9_init_569 rfl ?_
  refine lv_bipush hx hb dX9_init_571 rfl ?_
  refine qn_ist hx hb hK hjl hP hD hS (k := 28) (by decide) rfl (by decide) (by decide +kernel) dX9_init_573 (fun H locs hP hD hS => ?_)
  refine lv_dup hx hb dX9_init_574 rfl ?_
  refine lv_bipush hx hb dX9_init_575 rfl ?_
  refine lv_bipush hx hb dX9_init_577 rfl ?_
  refine qn_ist hx hb hK hjl hP hD hS (k := 29) (by decide) rfl (by decide) (by decide +kernel) dX9_init_579 (fun H locs hP hD hS => ?_)
  refine lv_dup hx hb dX9_init_580 rfl ?_
  refine lv_bipush hx hb dX9_init_581 rfl ?_
  refine lv_bipush hx hb dX9_init_583 rfl ?_
  refine qn_ist hx hb hK hjl hP hD hS (k := 30) (by decide) rfl (by decide) (by decide +kernel) dX9_init_585 (fun H locs hP hD hS => ?_)
  refine lv_dup hx hb dX9_init_586 rfl ?_
  refine lv_bipush hx hb dX9_init_587 rfl ?_
  refine lv_bipush hx hb dX9_init_589 rfl ?_
  refine qn_ist hx hb hK hjl hP hD hS (k := 31) (by decide) rfl (by decide) (by decide +kernel) dX9_init_591 (fun H locs hP hD hS => ?_)
  refine lv_dup hx hb dX9_init_592 rfl ?_
  refine lv_bipush hx hb dX9_init_593 rfl ?_
  refine lv_bipush hx hb dX9_init_595 rfl ?_
  refine qn_ist hx hb hK hjl hP hD hS (k := 32) (by decide) rfl (by decide) (by decide +kernel) dX9_init_597 (fun H locs hP hD hS => ?_)
  refine lv_dup hx hb dX9_init_598 rfl ?_
  refine lv_bipush hx hb dX9_init_599 rfl ?_
  refine lv_bipush hx hb dX9_init_601 rfl ?_
  refine qn_ist hx hb hK hjl hP hD hS (k := 33) (by decide) rfl (by decide) (by decide +kernel) dX9_init_603 (fun H locs hP hD hS => ?_)
  refine lv_dup hx hb dX9_init_604 rfl ?_
  refine lv_bipush hx hb dX9_init_605 rfl ?_
  refine lv_bipush hx hb dX9_init_607 rfl ?_
  refine qn_ist hx hb hK hjl hP hD hS (k := 34) (by decide) rfl (by decide) (by decide +kernel) dX9_init_609 (fun H locs hP hD hS => ?_)
  refine lv_dup hx hb dX9_init_610 rfl ?_
  refine lv_bipush hx hb dX9_init_611 rfl ?_
  refine lv_bipush hx hb dX9_init_613 rfl ?_
  refine qn_ist hx hb hK hjl hP hD hS (k := 35) (by decide) rfl (by decide) (by decide +kernel) dX9_init_615 (fun H locs hP hD hS => ?_)
  refine lv_dup hx hb dX9_init_616 rfl ?_
  refine lv_bipush hx hb dX9_init_617 rfl ?_
  refine lv_bipush hx hb dX9_init_619 rfl ?_
  refine qn_ist hx hb hK hjl hP hD hS (k := 36) (by decide) rfl (by decide) (by decide +kernel) dX9_init_621 (fun H locs hP hD hS => ?_)
  refine lv_dup hx hb dX9_init_622 rfl ?_
  refine lv_bipush hx hb dX9_init_623 rfl ?_
  refine lv_bipush hx hb dX9_init_625 rfl ?_
  refine qn_ist hx hb hK hjl hP hD hS (k := 37) (by decide) rfl (by decide) (by decide +kernel) dX9_init_627 (fun H locs hP hD hS => ?_)
  refine lv_dup hx hb dX9_init_628 rfl ?_
  refine lv_bipush hx hb dX9_init_629 rfl ?_
  refine lv_bipush hx hb dX9_init_631 rfl ?_
  refine qn_ist hx hb hK hjl hP hD hS (k := 38) (by decide) rfl (by decide) (by decide +kernel) dX9_init_633 (fun H locs hP hD hS => ?_)
  refine lv_dup hx hb dX9_init_634 rfl ?_
  refine lv_bipush hx hb dX9_init_635 rfl ?_
  refine lv_bipush hx hb dX9_init_637 rfl ?_
  refine qn_ist hx hb hK hjl hP hD hS (k := 39) (by decide) rfl (by decide) (by decide +kernel) dX9_init_639 (fun H locs hP hD hS => ?_)
  refine lv_dup hx hb dX9_init_640 rfl ?_
  refine lv_bipush hx hb dX9_init_641 rfl ?_
  refine lv_bipush hx hb dX9_init_643 rfl ?_
  refine qn_ist hx hb hK hjl hP hD hS (k := 40) (by decide) rfl (by decide) (by decide +kernel) dX9_init_645 (fun H locs hP hD hS => ?_)
  refine lv_dup hx hb dX9_init_646 rfl ?_
  refine lv_bipush hx hb dX9_init_647 rfl ?_
  refine lv_bipush hx hb dX9_init_649 rfl ?_
  refine qn_ist hx hb hK hjl hP hD hS (k := 41) (by decide) rfl (by decide) (by decide +kernel) dX9_init_651 (fun H locs hP hD hS => ?_)
  refine lv_dup hx hb dX9_init_652 rfl ?_
  refine lv_bipush hx hb dX9_init_653 rfl ?_
  refine lv_bipush hx hb dX9_init_655 rfl ?_
  refine qn_ist hx hb hK hjl hP hD hS (k := 42) (by decide) rfl (by decide) (by decide +kernel) dX9_init_657 (fun H locs hP hD hS => ?_)
  refine lv_dup hx hb dX9_init_658 rfl ?_
  refine lv_bipush hx hb dX9_init_659 rfl ?_
  refine lv_bipush hx hb dX9_init_661 rfl ?_
  refine qn_ist hx hb hK hjl hP hD hS (k := 43) (by decide) rfl (by decide) (by decide +kernel) dX9_init_663 (fun H locs hP hD hS => ?_)
  refine lv_dup hx hb dX9_init_664 rfl ?_
  refine lv_bipush hx hb dX9_init_665 rfl ?_
  refine lv_bipush hx hb dX9_init_667 rfl ?_
  refine qn_ist hx hb hK hjl hP hD hS (k := 44) (by decide) rfl (by decide) (by decide +kernel) dX9_init_669 (fun H locs hP hD hS => ?_)
  refine lv_dup hx hb dX9_init_670 rfl ?_
  refine lv_bipush hx hb dX9_init_671 rfl ?_
  refine lv_bipush hx hb dX9_init_673 rfl ?_
  refine qn_ist hx hb hK hjl hP hD hS (k := 45) (by decide) rfl (by decide) (by decide +kernel) dX9_init_675 (fun H locs hP hD hS => ?_)
  refine lv_dup hx hb dX9_init_676 rfl ?_
  refine lv_bipush hx hb dX9_init_677 rfl ?_
  refine lv_bipush hx hb dX9_init_679 rfl ?_
  refine qn_ist hx hb hK hjl hP hD hS (k := 46) (by decide) rfl (by decide) (by decide +kernel) dX9_init_681 (fun H locs hP hD hS => ?_)
  refine lv_dup hx hb dX9_init_682 rfl ?_
  refine lv_bipush hx hb dX9_init_683 rfl ?_
  refine lv_bipush hx hb dX9_init_685 rfl ?_
  refine qn_ist hx hb hK hjl hP hD hS (k := 47) (by decide) rfl (by decide) (by decide +kernel) dX9_init_687 (fun H locs hP hD hS => ?_)
  refine lv_dup hx hb dX9_init_688 rfl ?_
  refine lv_bipush hx hb dX9_init_689 rfl ?_
  refine lv_bipush hx hb dX9_init_691 rfl ?_
  refine qn_ist hx hb hK hjl hP hD hS (k := 48) (by decide) rfl (by decide) (by decide +kernel) dX9_init_693 (fun H locs hP hD hS => ?_)
  refine lv_dup hx hb dX9_init_694 rfl ?_
  refine lv_bipush hx hb dX9_init_695 rfl ?_
  refine lv_bipush hx hb dX9_init_697 rfl ?_
  refine qn_ist hx hb hK hjl hP hD hS (k := 49) (by decide) rfl (by decide) (by decide +kernel) dX9_init_699 (fun H locs hP hD hS => ?_)
  refine lv_dup hx hb dX9_init_700 rfl ?_
  refine lv_bipush hx hb dX9_init_701 rfl ?_
  refine lv_bipush hx hb dX9_init_703 rfl ?_
  refine qn_ist hx hb hK hjl hP hD hS (k := 50) (by decide) rfl (by decide) (by decide +kernel) dX9_init_705 (fun H locs hP hD hS => ?_)
  refine lv_dup hx hb dX9_init_706 rfl ?_
  refine lv_bipush hx hb dX9_init_707 rfl ?_
  refine lv_bipush hx hb dX9_init_709 rfl ?_
  refine qn_ist hx hb hK hjl hP hD hS (k := 51) (by decide) rfl (by decide) (by decide +kernel) dX9_init_711 (fun H locs hP hD hS => ?_)
  refine lv_dup hx hb dX9_init_712 rfl ?_
  refine lv_bipush hx hb dX9_init_713 rfl ?_
  refine lv_bipush hx hb dX9_init_715 rfl ?_
  refine qn_ist hx hb hK hjl hP hD hS (k := 52) (by decide) rfl (by decide) (by decide +kernel) dX9_init_717 (fun H locs hP hD hS => ?_)
  refine lv_dup hx hb dX9_init_718 rfl ?_
  refine lv_bipush hx hb dX9_init_719 rfl ?_
  refine lv_bipush hx hb dX9_init_721 rfl ?_
  refine qn_ist hx hb hK hjl hP hD hS (k := 53) (by decide) rfl (by decide) (by decide +kernel) dX9_init_723 (fun H locs hP hD hS => ?_)
  refine lv_dup hx hb dX9_init_724 rfl ?_
  refine lv_bipush hx hb dX9_init_725 rfl ?_
  refine lv_bipush hx hb dX9_init_727 rfl ?_
  refine qn_ist hx hb hK hjl hP hD hS (k := 54) (by decide) rfl (by decide) (by decide +kernel) dX9_init_729 (fun H locs hP hD hS => ?_)
  refine lv_dup hx hb dX9_init_730 rfl ?_
  refine lv_bipush hx hb dX9_init_731 rfl ?_
  refine lv_bipush hx hb dX9_init_733 rfl ?_
  refine qn_ist hx hb hK hjl hP hD hS (k := 55) (by decide) rfl (by decide) (by decide +kernel) dX9_init_735 (fun H locs hP hD hS => ?_)
  refine lv_dup hx hb dX9_init_736 rfl ?_
  refine lv_bipush hx hb dX9_init_737 rfl ?_
  refine lv_bipush hx hb dX9_init_739 rfl ?_
  refine qn_ist hx hb hK hjl hP hD hS (k := 56) (by decide) rfl (by decide) (by decide +kernel) dX9_init_741 (fun H locs hP hD hS => ?_)
  refine lv_dup hx hb dX9_init_742 rfl ?_
  refine lv_bipush hx hb dX9_init_743 rfl ?_
  refine lv_bipush hx hb dX9_init_745 rfl ?_
  refine qn_ist hx hb hK hjl hP hD hS (k := 57) (by decide) rfl (by decide) (by decide +kernel) dX9_init_747 (fun H locs hP hD hS => ?_)
  refine lv_dup hx hb dX9_init_748 rfl ?_
  refine lv_bipush hx hb dX9_init_749 rfl ?_
  refine lv_bipush hx hb dX9_init_751 rfl ?_
  refine qn_ist hx hb hK hjl hP hD hS (k := 58) (by decide) rfl (by decide) (by decide +kernel) dX9_init_753 (fun H locs hP hD hS => ?_)
  refine lv_dup hx hb dX9_init_754 rfl ?_
  refine lv_bipush hx hb dX9_init_755 rfl ?_
  refine lv_bipush hx hb dX9_init_757 rfl ?_
  refine qn_ist hx hb hK hjl hP hD hS (k := 59) (by decide) rfl (by decide) (by decide +kernel) dX9_init_759 (fun H locs hP hD hS => ?_)
  refine lv_dup hx hb dX9_init_760 rfl ?_
  refine lv_bipush hx hb dX9_init_761 rfl ?_
  refine lv_bipush hx hb dX9_init_763 rfl ?_
  refine qn_ist hx hb hK hjl hP hD hS (k := 60) (by decide) rfl (by decide) (by decide +kernel) dX9_init_765 (fun H locs hP hD hS => ?_)
  refine lv_dup hx hb dX9_init_766 rfl ?_
  refine lv_bipush hx hb dX9_init_767 rfl ?_
  refine lv_bipush hx hb dX9_init_769 rfl ?_
  refine qn_ist hx hb hK hjl hP hD hS (k := 61) (by decide) rfl (by decide) (by decide +kernel) dX9_init_771 (fun H locs hP hD hS => ?_)
  refine lv_dup hx hb dX9_init_772 rfl ?_
  refine lv_bipush hx hb dX9_init_773 rfl ?_
  refine lv_bipush hx hb dX9_init_775 rfl ?_
  refine qn_ist hx hb hK hjl hP hD hS (k := 62) (by decide) rfl (by decide) (by decide +kernel) dX9_init_777 (fun H locs hP hD hS => ?_)
  refine lv_dup hx hb dX9_init_778 rfl ?_
  refine lv_bipush hx hb dX9_init_779 rfl ?_
  refine lv_bipush hx hb dX9_init_781 rfl ?_
  refine qn_ist hx hb hK hjl hP hD hS (k := 63) (by decide) rfl (by decide) (by decide +kernel) dX9_init_783 (fun H locs hP hD hS => ?_)
  refine lv_dup hx hb dX9_init_784 rfl ?_
  refine lv_bipush hx hb dX9_init_785 rfl ?_
  refine lv_bipush hx hb dX9_init_787 rfl ?_
  refine qn_ist hx hb hK hjl hP hD hS (k := 64) (by decide) rfl (by decide) (by decide +kernel) dX9_init_789 (fun H locs hP hD hS => ?_)
  refine lv_dup hx hb dX9_init_790 rfl ?_
  refine lv_bipush hx hb dX9_init_791 rfl ?_
  refine lv_bipush hx hb dX9_init_793 rfl ?_
  refine qn_ist hx hb hK hjl hP hD hS (k := 65) (by decide) rfl (by decide) (by decide +kernel) dX9_init_795 (fun H locs hP hD hS => ?_)
  refine lv_dup hx hb dX9_init_796 rfl ?_
  refine lv_bipush hx hb dX9_init_797 rfl ?_
  refine lv_bipush hx hb dX9_init_799 rfl ?_
  refine qn_ist hx hb hK hjl hP hD hS (k := 66) (by decide) rfl (by decide) (by decide +kernel) dX9_init_801 (fun H locs hP hD hS => ?_)
  refine lv_dup hx hb dX9_init_802 rfl ?_
  refine lv_bipush hx hb dX9_init_803 rfl ?_
  refine lv_bipush hx hb dX9_init_805 rfl ?_
  refine qn_ist hx hb hK hjl hP hD hS (k := 67) (by decide) rfl (by decide) (by decide +kernel) dX9_init_807 (fun H locs hP hD hS => ?_)
  refine lv_dup hx hb dX9_init_808 rfl ?_
  refine lv_bipush hx hb dX9_init_809 rfl ?_
  refine lv_bipush hx hb dX9_init_811 rfl ?_
  refine qn_ist hx hb hK hjl hP hD hS (k := 68) (by decide) rfl (by decide) (by decide +kernel) dX9_init_813 (fun H locs hP hD hS => ?_)
  refine lv_dup hx hb dX9_init_814 rfl ?_
  refine lv_bipush hx hb dX9_init_815 rfl ?_
  refine lv_bipush hx hb dX9_init_817 rfl ?_
  refine qn_ist hx hb hK hjl hP hD hS (k := 69) (by decide) rfl (by decide) (by decide +kernel) dX9_init_819 (fun H locs hP hD hS => ?_)
  refine lv_dup hx hb dX9_init_820 rfl ?_
  refine lv_bipush hx hb dX9_init_821 rfl ?_
  refine lv_bipush hx hb dX9_init_823 rfl ?_
  refine qn_ist hx hb hK hjl hP hD hS (k := 70) (by decide) rfl (by decide) (by decide +kernel) dX9_init_825 (fun H locs hP hD hS => ?_)
  refine lv_dup hx hb dX9_init_826 rfl ?_
  refine lv_bipush hx hb dX9_init_827 rfl ?_
  refine lv_bipush hx hb dX9_init_829 rfl ?_
  refine qn_ist hx hb hK hjl hP hD hS (k := 71) (by decide) rfl (by decide) (by decide +kernel) dX9_init_831 (fun H locs hP hD hS => ?_)
  refine lv_dup hx hb dX9_init_832 rfl ?_
  refine lv_bipush hx hb dX9_init_833 rfl ?_
  refine lv_bipush hx hb dX9_init_835 rfl ?_
  refine qn_ist hx hb hK hjl hP hD hS (k := 72) (by decide) rfl (by decide) (by decide +kernel) dX9_init_837 (fun H locs hP hD hS => ?_)
  refine lv_dup hx hb dX9_init_838 rfl ?_
  refine lv_bipush hx hb dX9_init_839 rfl ?_
  refine lv_bipush hx hb dX9_init_841 rfl ?_
  refine qn_ist hx hb hK hjl hP hD hS (k := 73) (by decide) rfl (by decide) (by decide +kernel) dX9_init_843 (fun H locs hP hD hS => ?_)
  refine lv_dup hx hb dX9_init_844 rfl ?_
  refine lv_bipush hx hb dX9_init_845 rfl ?_
  refine lv_bipush hx hb dX9_init_847 rfl ?_
  refine qn_ist hx hb hK hjl hP hD hS (k := 74) (by decide) rfl (by decide) (by decide +kernel) dX9_init_849 (fun H locs hP hD hS => ?_)
  refine lv_dup hx hb dX9_init_850 rfl ?_
  refine lv_bipush hx hb dX9_init_851 rfl ?_
  refine lv_bipush hx hb dX9_init_853 rfl ?_
  refine qn_ist hx hb hK hjl hP hD hS (k := 75) (by decide) rfl (by decide) (by decide +kernel) dX9_init_855 (fun H locs hP hD hS => ?_)
  refine lv_dup hx hb dX9_init_856 rfl ?_
  refine lv_bipush hx hb dX9_init_857 rfl ?_
  refine lv_bipush hx hb dX9_init_859 rfl ?_
  refine qn_ist hx hb hK hjl hP hD hS (k := 76) (by decide) rfl (by decide) (by decide +kernel) dX9_init_861 (fun H locs hP hD hS => ?_)
  refine lv_dup hx hb dX9_init_862 rfl ?_
  refine lv_bipush hx hb dX9_init_863 rfl ?_
  refine lv_bipush hx hb dX9_init_865 rfl ?_
  refine qn_ist hx hb hK hjl hP hD hS (k := 77) (by decide) rfl (by decide) (by decide +kernel) dX9_init_867 (fun H locs hP hD hS => ?_)
  refine lv_dup hx hb dX9_init_868 rfl ?_
  refine lv_bipush hx hb dX9_init_869 rfl ?_
  refine lv_bipush hx hb dX9_init_871 rfl ?_
  refine qn_ist hx hb hK hjl hP hD hS (k := 78) (by decide) rfl (by decide) (by decide +kernel) dX9_init_873 (fun H locs hP hD hS => ?_)
  refine lv_dup hx hb dX9_init_874 rfl ?_
  refine lv_bipush hx hb dX9_init_875 rfl ?_
  refine lv_bipush hx hb dX9_init_877 rfl ?_
  refine qn_ist hx hb hK hjl hP hD hS (k := 79) (by decide) rfl (by decide) (by decide +kernel) dX9_init_879 (fun H locs hP hD hS => ?_)
  refine lv_dup hx hb dX9_init_880 rfl ?_
  refine lv_bipush hx hb dX9_init_881 rfl ?_
  refine lv_bipush hx hb dX9_init_883 rfl ?_
  refine qn_ist hx hb hK hjl hP hD hS (k := 80) (by decide) rfl (by decide) (by decide +kernel) dX9_init_885 (fun H locs hP hD hS => ?_)
  refine lv_dup hx hb dX9_init_886 rfl ?_
  refine lv_bipush hx hb dX9_init_887 rfl ?_
  refine lv_bipush hx hb dX9_init_889 rfl ?_
  refine qn_ist hx hb hK hjl hP hD hS (k := 81) (by decide) rfl (by decide) (by decide +kernel) dX9_init_891 (fun H locs hP hD hS => ?_)
  refine lv_dup hx hb dX9_init_892 rfl ?_
  refine lv_bipush hx hb dX9_init_893 rfl ?_
  refine lv_bipush hx hb dX9_init_895 rfl ?_
  refine qn_ist hx hb hK hjl hP hD hS (k := 82) (by decide) rfl (by decide) (by decide +kernel) dX9_init_897 (fun H locs hP hD hS => ?_)
  refine lv_dup hx hb dX9_init_898 rfl ?_
  refine lv_bipush hx hb dX9_init_899 rfl ?_
  refine lv_bipush hx hb dX9_init_901 rfl ?_
  refine qn_ist hx hb hK hjl hP hD hS (k := 83) (by decide) rfl (by decide) (by decide +kernel) dX9_init_903 (fun H locs hP hD hS => ?_)
  refine lv_dup hx hb dX9_init_904 rfl ?_
  refine lv_bipush hx hb dX9_init_905 rfl ?_
  refine lv_bipush hx hb dX9_init_907 rfl ?_
  refine qn_ist hx hb hK hjl hP hD hS (k := 84) (by decide) rfl (by decide) (by decide +kernel) dX9_init_909 (fun H locs hP hD hS => ?_)
  refine lv_dup hx hb dX9_init_910 rfl ?_
  refine lv_bipush hx hb dX9_init_911 rfl ?_
  refine lv_bipush hx hb dX9_init_913 rfl ?_
  refine qn_ist hx hb hK hjl hP hD hS (k := 85) (by decide) rfl (by decide) (by decide +kernel) dX9_init_915 (fun H locs hP hD hS => ?_)
  refine lv_dup hx hb dX9_init_916 rfl ?_
  refine lv_bipush hx hb dX9_init_917 rfl ?_
  refine lv_bipush hx hb dX9_init_919 rfl ?_
  refine qn_ist hx hb hK hjl hP hD hS (k := 86) (by decide) rfl (by decide) (by decide +kernel) dX9_init_921 (fun H locs hP hD hS => ?_)
  refine lv_dup hx hb dX9_init_922 rfl ?_
  refine lv_bipush hx hb dX9_init_923 rfl ?_
  refine lv_bipush hx hb dX9_init_925 rfl ?_
  refine qn_ist hx hb hK hjl hP hD hS (k := 87) (by decide) rfl (by decide) (by decide +kernel) dX9_init_927 (fun H locs hP hD hS => ?_)
  refine lv_dup hx hb dX9_init_928 rfl ?_
  refine lv_bipush hx hb dX9_init_929 rfl ?_
  refine lv_bipush hx hb dX9_init_931 rfl ?_
  refine qn_ist hx hb hK hjl hP hD hS (k := 88) (by decide) rfl (by decide) (by decide +kernel) dX9_init_933 (fun H locs hP hD hS => ?_)
  refine lv_dup hx hb dX9_init_934 rfl ?_
  refine lv_bipush hx hb dX9_init_935 rfl ?_
  refine lv_bipush hx hb dX9_init_937 rfl ?_
  refine qn_ist hx hb hK hjl hP hD hS (k := 89) (by decide) rfl (by decide) (by decide +kernel) dX9_init_939 (fun H locs hP hD hS => ?_)
  refine lv_dup hx hb dX9_init_940 rfl ?_
  refine lv_bipush hx hb dX9_init_941 rfl ?_
  refine lv_bipush hx hb dX9_init_943 rfl ?_
  refine qn_ist hx hb hK hjl hP hD hS (k := 90) (by decide) rfl (by decide) (by decide +kernel) dX9_init_945 (fun H locs hP hD hS => ?_)
  refine lv_dup hx hb dX9_init_946 rfl ?_
  refine lv_bipush hx hb dX9_init_947 rfl ?_
  refine lv_bipush hx hb dX9_init_949 rfl ?_
  refine qn_ist hx hb hK hjl hP hD hS (k := 91) (by decide) rfl (by decide) (by decide +kernel) dX9_init_951 (fun H locs hP hD hS => ?_)
  refine lv_dup hx hb dX9_init_952 rfl ?_
  refine lv_bipush hx hb dX9_init_953 rfl ?_
  refine lv_bipush hx hb dX9_init_955 rfl ?_
  refine qn_ist hx hb hK hjl hP hD hS (k := 92) (by decide) rfl (by decide) (by decide +kernel) dX9_init_957 (fun H locs hP hD hS => ?_)
  refine lv_dup hx hb dX9_init_958 rfl ?_
  refine lv_bipush hx hb dX9_init_959 rfl ?_
  refine lv_bipush hx hb dX9_init_961 rfl ?_
  refine qn_ist hx hb hK hjl hP hD hS (k := 93) (by decide) rfl (by decide) (by decide +kernel) dX9_init_963 (fun H locs hP hD hS => ?_)
  refine lv_dup hx hb dX9_init_964 rfl ?_
  refine lv_bipush hx hb dX9_init_965 rfl ?_
  refine lv_bipush hx hb dX9_init_967 rfl ?_
  refine qn_ist hx hb hK hjl hP hD hS (k := 94) (by decide) rfl (by decide) (by decide +kernel) dX9_init_969 (fun H locs hP hD hS => ?_)
  refine lv_dup hx hb dX9_init_970 rfl ?_
  refine lv_bipush hx hb dX9_init_971 rfl ?_
  refine lv_bipush hx hb dX9_init_973 rfl ?_
  refine qn_ist hx hb hK hjl hP hD hS (k := 95) (by decide) rfl (by decide) (by decide +kernel) dX9_init_975 (fun H locs hP hD hS => ?_)
  exact kk H locs hP hD hS

/-! ===== the reference's constructor ===== -/
set_option maxRecDepth 100000 in
theorem qn_m97 : (Jvm.Cond.instanceMethod ({ cls := "java/lang/Object", name := "<init>", desc := "()V" } : Jvm.MethodName)) ∈ qm_G := qm_inW (i := 97) (by decide +kernel) rfl
set_option maxRecDepth 100000 in
theorem qn_m98 : (Jvm.Cond.code ({ cls := "java/lang/Object", name := "<init>", desc := "()V" } : Jvm.MethodName) object_method_1_code (1 : Nat) (Option.none : Option Jvm.ClassFile.FieldType)) ∈ qm_G := qm_inW (i := 98) (by decide +kernel) rfl
set_option maxRecDepth 100000 in
theorem qn_m152 : (Jvm.Cond.arrayClass Jvm.ClassFile.FieldType.int) ∈ qm_G := qm_inW (i := 152) (by decide +kernel) rfl
set_option maxRecDepth 100000 in
theorem qn_m930 : (Jvm.Cond.methodLink "FirstColourModel" (1 : Nat) ({ cls := "java/lang/Object", name := "<init>", desc := "()V" } : Jvm.MethodName)) ∈ qm_G := qm_inW (i := 930) (by decide +kernel) rfl
set_option maxRecDepth 100000 in
theorem qn_m979 : (Jvm.Cond.fieldLink "FirstColourModel" (7 : Nat) "FirstColourModel" "kind" "[I") ∈ qm_G := qm_inW (i := 979) (by decide +kernel) rfl
set_option maxRecDepth 100000 in
theorem qn_m980 : (Jvm.Cond.fieldLink "FirstColourModel" (13 : Nat) "FirstColourModel" "moreOf" "[I") ∈ qm_G := qm_inW (i := 980) (by decide +kernel) rfl
set_option maxRecDepth 100000 in
theorem qn_m981 : (Jvm.Cond.fieldLink "FirstColourModel" (16 : Nat) "FirstColourModel" "beside" "[I") ∈ qm_G := qm_inW (i := 981) (by decide +kernel) rfl
set_option maxRecDepth 100000 in
theorem qn_m982 : (Jvm.Cond.fieldLink "FirstColourModel" (19 : Nat) "FirstColourModel" "colour" "[I") ∈ qm_G := qm_inW (i := 982) (by decide +kernel) rfl
set_option maxRecDepth 100000 in
theorem qn_m983 : (Jvm.Cond.fieldLink "FirstColourModel" (22 : Nat) "FirstColourModel" "builtAt" "[I") ∈ qm_G := qm_inW (i := 983) (by decide +kernel) rfl
set_option maxRecDepth 100000 in
theorem qn_m985 : (Jvm.Cond.fieldLink "FirstColourModel" (25 : Nat) "FirstColourModel" "tape" "[I") ∈ qm_G := qm_inW (i := 985) (by decide +kernel) rfl
set_option maxRecDepth 100000 in
theorem qn_m987 : (Jvm.Cond.fieldLink "FirstColourModel" (28 : Nat) "FirstColourModel" "codes" "[I") ∈ qm_G := qm_inW (i := 987) (by decide +kernel) rfl
set_option maxRecDepth 100000 in
theorem qn_m988 : (Jvm.Cond.fieldLink "FirstColourModel" (31 : Nat) "FirstColourModel" "starts" "[I") ∈ qm_G := qm_inW (i := 988) (by decide +kernel) rfl
set_option maxRecDepth 100000 in
theorem qn_m995 : (Jvm.Cond.fieldLink "FirstColourModel" (34 : Nat) "FirstColourModel" "imageRows" "[I") ∈ qm_G := qm_inW (i := 995) (by decide +kernel) rfl
set_option maxRecDepth 100000 in
theorem qn_m996 : (Jvm.Cond.fieldLink "FirstColourModel" (37 : Nat) "FirstColourModel" "sheetSort" "[I") ∈ qm_G := qm_inW (i := 996) (by decide +kernel) rfl
set_option maxRecDepth 100000 in
theorem qn_m997 : (Jvm.Cond.fieldLink "FirstColourModel" (40 : Nat) "FirstColourModel" "sheetSize" "[I") ∈ qm_G := qm_inW (i := 997) (by decide +kernel) rfl
set_option maxRecDepth 100000 in
theorem qn_m998 : (Jvm.Cond.fieldLink "FirstColourModel" (43 : Nat) "FirstColourModel" "cells" "[I") ∈ qm_G := qm_inW (i := 998) (by decide +kernel) rfl
set_option maxRecDepth 100000 in
theorem qn_m999 : (Jvm.Cond.fieldLink "FirstColourModel" (46 : Nat) "FirstColourModel" "law" "[I") ∈ qm_G := qm_inW (i := 999) (by decide +kernel) rfl
set_option maxRecDepth 100000 in
theorem qn_m1004 : (Jvm.Cond.fieldLink "FirstColourModel" (49 : Nat) "FirstColourModel" "words" "[I") ∈ qm_G := qm_inW (i := 1004) (by decide +kernel) rfl
set_option maxRecDepth 100000 in
theorem qn_m1005 : (Jvm.Cond.fieldLink "FirstColourModel" (52 : Nat) "FirstColourModel" "held" "[I") ∈ qm_G := qm_inW (i := 1005) (by decide +kernel) rfl
set_option maxRecDepth 100000 in
theorem qn_m1009 : (Jvm.Cond.fieldLink "FirstColourModel" (55 : Nat) "FirstColourModel" "stack" "[I") ∈ qm_G := qm_inW (i := 1009) (by decide +kernel) rfl
set_option maxRecDepth 100000 in
theorem qn_m1010 : (Jvm.Cond.fieldLink "FirstColourModel" (58 : Nat) "FirstColourModel" "named" "[I") ∈ qm_G := qm_inW (i := 1010) (by decide +kernel) rfl
set_option maxRecDepth 100000 in
theorem qn_m1011 : (Jvm.Cond.fieldLink "FirstColourModel" (61 : Nat) "FirstColourModel" "kept" "[I") ∈ qm_G := qm_inW (i := 1011) (by decide +kernel) rfl
set_option maxRecDepth 100000 in
theorem qn_m1013 : (Jvm.Cond.fieldLink "FirstColourModel" (64 : Nat) "FirstColourModel" "row" "[I") ∈ qm_G := qm_inW (i := 1013) (by decide +kernel) rfl
set_option maxRecDepth 100000 in
theorem qn_m1015 : (Jvm.Cond.fieldLink "FirstColourModel" (67 : Nat) "FirstColourModel" "painted" "[I") ∈ qm_G := qm_inW (i := 1015) (by decide +kernel) rfl
set_option maxRecDepth 100000 in
theorem qm_cs8 : ∀ w ∈ u_ws RX9 TX9 39, w ∈ qm_G := qm_allG (by decide +kernel)
def qn_layM : List qm_LE := [.inl (8, [.inl 27, .inr 56, .inr 57, .inr 58, .inr 59, .inr 60, .inl 28, .inr 61, .inl 29, .inr 62, .inr 63, .inl 30, .inl 31, .inl 32, .inl 33, .inl 34, .inl 35, .inr 64, .inr 65, .inr 66, .inr 67, .inr 68, .inl 36, .inl 37, .inl 38, .inl 39, .inr 69, .inr 70, .inl 40, .inl 41, .inl 42, .inr 71, .inr 72, .inr 73, .inl 43, .inr 74, .inl 44, .inr 75, .inl 45]), .inr (.inl (7, 42)), .inr (.inl (7, 43)), .inr (.inl (7, 44)), .inr (.inl (7, 45)), .inr (.inl (7, 46)), .inr (.inl (160, 47)), .inr (.inl (1200, 48)), .inr (.inl (24, 49)), .inr (.inl (21, 50)), .inr (.inl (4, 51)), .inr (.inl (4, 52)), .inr (.inl (160, 53)), .inr (.inl (47, 54)), .inr (.inl (96, 55)), .inr (.inl (200, 56)), .inr (.inl (200, 57)), .inr (.inl (6, 58)), .inr (.inl (21, 59)), .inr (.inl (7, 60)), .inr (.inl (7, 61))]
theorem qn_lay_eq : qm_lay = qn_layC ++ qn_layM := rfl
theorem qn_layC_ok : ∀ e ∈ qn_layC, qn_le 55 27 42 e = true := by decide +kernel
def qn_aM (α : Nat → Nat) (new : List Nat) : Nat → Nat := fun k => if k < 55 then α k else if k < 76 then new.getD (k - 55) 0 else α k
def qn_gM (σ : qm_St) : qm_St := (fun i => if i < 27 then σ.1 i else 0, fun j => if j < 42 then σ.2 j else if j = 51 then qn_ro qn_L51 4 else if j = 54 then qn_ro qn_L54 47 else if j = 55 then qn_ro qn_L55 96 else fun _ => 0)
theorem qn_gM_C {σ : qm_St} {j : Nat} (h : j < 42) : (qn_gM σ).2 j = σ.2 j := if_pos h
theorem qn_gM_0 {σ : qm_St} {j : Nat} (h : 42 ≤ j) (h1 : j ≠ 51) (h2 : j ≠ 54) (h3 : j ≠ 55) : (qn_gM σ).2 j = fun _ => 0 := by
  show (if j < 42 then σ.2 j else if j = 51 then qn_ro qn_L51 4 else if j = 54 then qn_ro qn_L54 47 else if j = 55 then qn_ro qn_L55 96 else fun _ => 0) = _
  rw [if_neg (by omega), if_neg h1, if_neg h2, if_neg h3]
/-- what a new object of the reference holds, beside the class's -/
def qn_pM (α : Nat → Nat) (h9 : Nat) (σ : qm_St) (u : (Nat → Nat) × qm_St) : Prop := (∀ k, k < 55 → u.1 k = α k) ∧ u.1 55 = h9 ∧ (∀ i, u.1 (1000 + i) = α (1000 + i)) ∧ (∀ s, s < 27 → u.2.1 s = σ.1 s) ∧ (∀ j, j < 42 → ∀ k, u.2.2 j k = σ.2 j k) ∧ qm_rI u.2 30 = nI 1 ∧ qm_rI u.2 29 = 0 ∧ (∀ p, p < 4 → qm_rF u.2 49 p = nI (fst_ 5 6 qn_c0 p)) ∧ (∀ k, k < qn_c0.length → qm_rF u.2 48 k = nI (gx_m (qn_c0.getD k 0))) ∧ (∀ s, 27 ≤ s → (s < 29 ∨ (31 ≤ s ∧ s < 36) ∨ 43 ≤ s) → qm_rI u.2 s = 0) ∧ (∀ j, 42 ≤ j → (j < 47 ∨ (49 < j ∧ j < 54 ∧ j ≠ 51) ∨ 56 < j) → ∀ k, qm_rF u.2 j k = 0) ∧ (∀ i, i < 4 → qm_rF u.2 51 i = -1) ∧ KW u.2
theorem qn_L54_ok : ∀ i, i < 47 → qn_ro qn_L54 47 i = nI (qn_w0.getD i 0) := by decide +kernel
theorem qn_L51_ok : ∀ i, i < 4 → qn_ro qn_L51 4 i = -1 := by decide +kernel
theorem qn_L55_ok : ∀ i, i < 96 → qn_ro qn_L55 96 i = ([119, 111, 114, 116, 104, 32, 32, 32, 119, 97, 105, 116, 115, 32, 32, 32, 109, 111, 118, 101, 115, 32, 32, 32, 99, 111, 108, 111, 117, 114, 32, 32, 108, 111, 116, 32, 32, 32, 32, 32, 98, 101, 115, 105, 100, 101, 32, 32, 111, 114, 100, 101, 114, 32, 32, 32, 109, 111, 114, 101, 32, 32, 32, 32, 108, 111, 116, 115, 32, 32, 32, 32, 111, 114, 32, 32, 32, 32, 32, 32, 97, 110, 100, 32, 32, 32, 32, 32, 110, 111, 116, 32, 32, 32, 32, 32] : List Int32).getD i 0 := by decide +kernel
theorem qn_mokM : qm_mok qm_G qm_cnm mX9_init := ⟨by decide +kernel, rfl, by decide⟩
theorem qn_mtM {σ : qm_St} : ∃ τ, Ex qm_lay 5 mX9_init 1029 [some (.ref 55), none] [] (qn_gM σ) none τ ∧ ∀ (α α' : Nat → Nat) (h9 : Nat), (∀ k, k < 55 → α' k = α k) → α' 55 = h9 → (∀ i, α' (1000 + i) = α (1000 + i)) → qn_pM α h9 σ (α', τ) := by
  obtain ⟨τ, hX, g30, g29, g49, g48, gs, gj⟩ := qn_mt qn_ok0 rfl qn_full0 (σ := qn_gM σ) qn_L54_ok qn_L55_ok rfl
  refine ⟨τ, hX, fun α α' h9 h1 h2 h3 => ⟨h1, h2, h3, fun s hs => ?_, fun j hj k => ?_, g30, g29, g49, g48, fun s h27 h => ?_, fun j h42 h k => ?_, fun i hi => ?_, fun i hi => ?_⟩⟩
  · refine (gs s (by omega)).trans ?_
    exact if_pos hs
  · refine (gj j (by omega) (by omega) (by omega) (by omega) k).trans ?_
    exact congrFun (qn_gM_C hj) k
  · refine (gs s h).trans ?_
    exact if_neg (by omega)
  · refine (gj j (by omega) (by omega) (by omega) (by omega) k).trans ?_
    exact congrFun (qn_gM_0 h42 (by omega) (by omega) (by omega)) k
  · exact (gj 51 (by omega) (by omega) (by omega) (by omega) i).trans (qn_L51_ok i hi)
  · exact (gj 55 (by omega) (by omega) (by omega) (by omega) i).trans (qn_L55_ok i hi)
set_option maxHeartbeats 16000000 in
set_option maxRecDepth 100000 in
theorem n_X9_init (l : Launch) (D : va_G) (cA cR : ClassId) (α : Nat → Nat) (σ : qm_St) (h9 sz : Nat) : Met l yX9_init (Cond.code yX9_init cX9_init 2 none :: qm_G) ({ frames := 11, cells := 20, slots := 2192, locals := 704 }) (va_Pc [.ref h9] (fun U => U.heap.size = sz ∧ va_P D vwCl (qm_W α cA cR qn_layC σ ++ [(h9, .inr (8, [.int 0, .null, .null, .null, .null, .null, .int 0, .null, .int 0, .null, .null, .int 0, .int 0, .int 0, .int 0, .int 0, .int 0, .null, .null, .null, .null, .null, .int 0, .int 0, .int 0, .int 0, .null, .null, .int 0, .int 0, .int 0, .null, .null, .null, .int 0, .null, .int 0, .null, .int 0]))]) U.heap ∧ va_K D vwCl (qm_ty cA cR) U ∧ va_D (fun _ => True) (qm_W α cA cR qn_layC σ ++ [(h9, .inr (8, [.int 0, .null, .null, .null, .null, .null, .int 0, .null, .int 0, .null, .null, .int 0, .int 0, .int 0, .int 0, .int 0, .int 0, .null, .null, .null, .null, .null, .int 0, .int 0, .int 0, .int 0, .null, .null, .int 0, .int 0, .int 0, .null, .null, .null, .int 0, .null, .int 0, .null, .int 0]))]) ∧ qm_E α (va_A (qm_W α cA cR qn_layC σ ++ [(h9, .inr (8, [.int 0, .null, .null, .null, .null, .null, .int 0, .null, .int 0, .null, .null, .int 0, .int 0, .int 0, .int 0, .int 0, .int 0, .null, .null, .null, .null, .null, .int 0, .int 0, .int 0, .int 0, .null, .null, .int 0, .int 0, .int 0, .null, .null, .null, .int 0, .null, .int 0, .null, .int 0]))]) sz) U U.heap)) (va_Qv (qn_pM α h9 σ) (fun (u : (Nat → Nat) × qm_St) U => va_P D vwCl (qm_W u.1 cA cR qm_lay u.2) U.heap ∧ va_K D vwCl (qm_ty cA cR) U ∧ va_D (va_A (qm_W α cA cR qn_layC σ ++ [(h9, .inr (8, [.int 0, .null, .null, .null, .null, .null, .int 0, .null, .int 0, .null, .null, .int 0, .int 0, .int 0, .int 0, .int 0, .int 0, .null, .null, .null, .null, .null, .int 0, .int 0, .int 0, .int 0, .null, .null, .int 0, .int 0, .int 0, .null, .null, .null, .int 0, .null, .int 0, .null, .int 0]))]) sz) (qm_W u.1 cA cR qm_lay u.2)) (va_A (qm_W α cA cR qn_layC σ ++ [(h9, .inr (8, [.int 0, .null, .null, .null, .null, .null, .int 0, .null, .int 0, .null, .null, .int 0, .int 0, .int 0, .int 0, .int 0, .int 0, .null, .null, .null, .null, .null, .int 0, .int 0, .int 0, .int 0, .null, .null, .int 0, .int 0, .int 0, .null, .null, .null, .int 0, .null, .int 0, .null, .int 0]))]) sz)) 20 2192 (va_A (qm_W α cA cR qn_layC σ ++ [(h9, .inr (8, [.int 0, .null, .null, .null, .null, .null, .int 0, .null, .int 0, .null, .null, .int 0, .int 0, .int 0, .int 0, .int 0, .int 0, .null, .null, .null, .null, .null, .int 0, .int 0, .int 0, .int 0, .null, .null, .int 0, .int 0, .int 0, .null, .null, .null, .int 0, .null, .int 0, .null, .int 0]))]) sz) := by
  refine Met.ofW (cc := cX9_init) (maxL := 2) (ret := none) (by decide) rfl ?_
  intro p e s m args below meth c s₁ B hml hv
  obtain ⟨rfl, hsz, hPa, hK, hDa0, hE⟩ := hv
  have hx := B.exec
  have hb := B.bytes
  have hr := B.returns
  have hts := atoms_spec (ws := Cond.code yX9_init cX9_init 2 none :: qm_G) B.pre
  have hG : ∀ w ∈ qm_G, w.before #[.ref h9] s = true := fun w hw => hts w (List.mem_cons_of_mem _ hw)
  have hown : s.vm.findClass RX9 = some m.cls := findClass_of_methodNamed B.named
  have hlocks := B.notSynchronized
  have hin : meth.name = "<init>" := (name_of_methodNamed B.named B.method).1
  subst hsz
  have hDa := hDa0.self (sz := s.heap.size)
  have hlen : (qm_W α cA cR qn_layC σ).length = 55 := by unfold qm_W; rw [List.length_mapIdx]; rfl
  have hat : ((qm_W α cA cR qn_layC σ ++ [(h9, .inr (8, [.int 0, .null, .null, .null, .null, .null, .int 0, .null, .int 0, .null, .null, .int 0, .int 0, .int 0, .int 0, .int 0, .int 0, .null, .null, .null, .null, .null, .int 0, .int 0, .int 0, .int 0, .null, .null, .int 0, .int 0, .int 0, .null, .null, .null, .int 0, .null, .int 0, .null, .int 0]))]))[55]? = some (h9, .inr (8, [.int 0, .null, .null, .null, .null, .null, .int 0, .null, .int 0, .null, .null, .int 0, .int 0, .int 0, .int 0, .int 0, .int 0, .null, .null, .null, .null, .null, .int 0, .int 0, .int 0, .int 0, .null, .null, .int 0, .int 0, .int 0, .null, .null, .null, .int 0, .null, .int 0, .null, .int 0])) := by rw [List.getElem?_append_right (by omega), hlen]; rfl
  have hP0 : va_P D vwCl [(h9, .inr (8, [.int 0, .null, .null, .null, .null, .null, .int 0, .null, .int 0, .null, .null, .int 0, .int 0, .int 0, .int 0, .int 0, .int 0, .null, .null, .null, .null, .null, .int 0, .int 0, .int 0, .int 0, .null, .null, .int 0, .int 0, .int 0, .null, .null, .null, .int 0, .null, .int 0, .null, .int 0]))] s.heap := hPa.sub [55] (by rw [List.filterMap_cons, hat]; rfl)
  have hPC : va_P D vwCl (qm_W α cA cR qn_layC σ) s.heap := fun k x hk => hPa k x (by rw [List.getElem?_append_left (List.getElem?_eq_some_iff.mp hk).1]; exact hk)
  have hDC : va_D (va_A (qm_W α cA cR qn_layC σ ++ [(h9, .inr (8, [.int 0, .null, .null, .null, .null, .null, .int 0, .null, .int 0, .null, .null, .int 0, .int 0, .int 0, .int 0, .int 0, .int 0, .null, .null, .null, .null, .null, .int 0, .int 0, .int 0, .int 0, .null, .null, .int 0, .int 0, .int 0, .null, .null, .null, .int 0, .null, .int 0, .null, .int 0]))]) s.heap.size) (qm_W α cA cR qn_layC σ) := ⟨fun i j x y hi hj => hDa.1 i j x y (by rw [List.getElem?_append_left (List.getElem?_eq_some_iff.mp hi).1]; exact hi) (by rw [List.getElem?_append_left (List.getElem?_eq_some_iff.mp hj).1]; exact hj), fun k x hk => hDa.2 k x (by rw [List.getElem?_append_left (List.getElem?_eq_some_iff.mp hk).1]; exact hk)⟩
  have hnot : ∀ (k : Nat) (x : Nat × va_E), (qm_W α cA cR qn_layC σ)[k]? = some x → ¬ va_A [(h9, .inr (8, [.int 0, .null, .null, .null, .null, .null, .int 0, .null, .int 0, .null, .null, .int 0, .int 0, .int 0, .int 0, .int 0, .int 0, .null, .null, .null, .null, .null, .int 0, .int 0, .int 0, .int 0, .null, .null, .int 0, .int 0, .int 0, .null, .null, .null, .int 0, .null, .int 0, .null, .int 0]))] s.heap.size x.1 := by
    intro k x hk z
    have hkl : k < 55 := by have := (List.getElem?_eq_some_iff.mp hk).1; omega
    rcases z with ⟨i, e1, hi⟩ | z
    · rcases i with _ | i
      · have hh : (h9, .inr (8, [.int 0, .null, .null, .null, .null, .null, .int 0, .null, .int 0, .null, .null, .int 0, .int 0, .int 0, .int 0, .int 0, .int 0, .null, .null, .null, .null, .null, .int 0, .int 0, .int 0, .int 0, .null, .null, .int 0, .int 0, .int 0, .null, .null, .null, .int 0, .null, .int 0, .null, .int 0])) = (x.1, e1) := Option.some.inj hi
        have h1 : x.1 = h9 := (congrArg Prod.fst hh).symm
        have := hDa.1 k 55 x _ (by rw [List.getElem?_append_left (by omega)]; exact hk) hat h1
        omega
      · cases hi
    · exact absurd (hPC k x hk).lt (by omega)
  have hD0 : va_D (fun _ => True) [(h9, .inr (8, [.int 0, .null, .null, .null, .null, .null, .int 0, .null, .int 0, .null, .null, .int 0, .int 0, .int 0, .int 0, .int 0, .int 0, .null, .null, .null, .null, .null, .int 0, .int 0, .int 0, .int 0, .null, .null, .int 0, .int 0, .int 0, .null, .null, .null, .int 0, .null, .int 0, .null, .int 0]))] := hDa0.sub [55] rfl (by rw [List.map_cons, hat]; rfl)
  have hD := hD0.self (sz := s.heap.size)
  have hsub : ∀ q, va_A [(h9, .inr (8, [.int 0, .null, .null, .null, .null, .null, .int 0, .null, .int 0, .null, .null, .int 0, .int 0, .int 0, .int 0, .int 0, .int 0, .null, .null, .null, .null, .null, .int 0, .int 0, .int 0, .int 0, .null, .null, .int 0, .int 0, .int 0, .null, .null, .null, .int 0, .null, .int 0, .null, .int 0]))] s.heap.size q → va_A (qm_W α cA cR qn_layC σ ++ [(h9, .inr (8, [.int 0, .null, .null, .null, .null, .null, .int 0, .null, .int 0, .null, .null, .int 0, .int 0, .int 0, .int 0, .int 0, .int 0, .null, .null, .null, .null, .null, .int 0, .int 0, .int 0, .int 0, .null, .null, .int 0, .int 0, .int 0, .null, .null, .null, .int 0, .null, .int 0, .null, .int 0]))]) s.heap.size q := by
    intro q z
    rcases z with ⟨i, e1, hi⟩ | z
    · rcases i with _ | i
      · have hh : (h9, .inr (8, [.int 0, .null, .null, .null, .null, .null, .int 0, .null, .int 0, .null, .null, .int 0, .int 0, .int 0, .int 0, .int 0, .int 0, .null, .null, .null, .null, .null, .int 0, .int 0, .int 0, .int 0, .null, .null, .int 0, .int 0, .int 0, .null, .null, .null, .int 0, .null, .int 0, .null, .int 0])) = (q, e1) := Option.some.inj hi
        have h1 : q = h9 := (congrArg Prod.fst hh).symm
        exact Or.inl ⟨55, _, by rw [hat, h1]⟩
      · cases hi
    · exact Or.inr z
  generalize hAe : va_A (qm_W α cA cR qn_layC σ ++ [(h9, .inr (8, [.int 0, .null, .null, .null, .null, .null, .int 0, .null, .int 0, .null, .null, .int 0, .int 0, .int 0, .int 0, .int 0, .int 0, .null, .null, .null, .null, .null, .int 0, .int 0, .int 0, .int 0, .null, .null, .int 0, .int 0, .int 0, .null, .null, .null, .int 0, .null, .int 0, .null, .int 0]))]) s.heap.size = A9 at hDC hE hsub ⊢
  have hA9 : ∀ q : Nat, s.heap.size ≤ q → A9 q := fun q h => by rw [← hAe]; exact Or.inr h
  generalize hAe2 : va_A [(h9, .inr (8, [.int 0, .null, .null, .null, .null, .null, .int 0, .null, .int 0, .null, .null, .int 0, .int 0, .int 0, .int 0, .int 0, .int 0, .null, .null, .null, .null, .null, .int 0, .int 0, .int 0, .int 0, .null, .null, .int 0, .int 0, .int 0, .null, .null, .null, .int 0, .null, .int 0, .null, .int 0]))] s.heap.size = A at hD hnot hsub
  have hA : ∀ q : Nat, s.heap.size ≤ q → A q := fun q h => by rw [← hAe2]; exact Or.inr h
  have hS : va_S A s.heap s.heap [] := va_S.rf
  have hP : va_P D vwCl [(h9, .inr (8, [.int 0, .null, .null, .null, .null, .null, .int 0, .null, .int 0, .null, .null, .int 0, .int 0, .int 0, .int 0, .int 0, .int 0, .null, .null, .null, .null, .null, .int 0, .int 0, .int 0, .int 0, .null, .null, .int 0, .int 0, .int 0, .null, .null, .null, .int 0, .null, .int 0, .null, .int 0]))] s.heap := hP0
  have hl := lv_entry ([.ref h9]) (n := 2) (Nat.le_of_ble_eq_true rfl)
  rw [lg_entry_eq]
  generalize (lg_sl ([.ref h9]) ++ List.replicate (2 - (lg_sl ([.ref h9])).length) Slot.unset).toArray = ls at hl ⊢
  have hl : lv_has ls 2 [(0, .ref h9)] := hl
  refine lv_aload_n hx hb dX9_init_0 rfl (lv_at hl 0 rfl) ?_
  refine W.objInit hx hb hown (hG _ qn_m930) (hG _ qn_m97) (hG _ qn_m98) rfl (by rw [hml]; exact hl.1) rfl dX9_init_1 (Nat.le_of_ble_eq_true rfl) (Nat.le_of_ble_eq_true rfl) ?_
  refine W.eq (g2 := F0 m 4 ls []) rfl ?_
  refine lv_aload_n hx hb dX9_init_4 rfl (lv_at hl 0 rfl) ?_
  refine lv_bipush hx hb dX9_init_5 rfl ?_
  refine qn_newa hx hb (hG _ qn_m152) hK hP hD hS hA (N := 7) (by decide) rfl (by decide) (Nat.le_of_ble_eq_true rfl) (Nat.le_of_ble_eq_true rfl) dX9_init_7 (fun q7 H hP hD hS => ?_)
  have hP : va_P D vwCl [(h9, .inr (8, [.int 0, .null, .null, .null, .null, .null, .int 0, .null, .int 0, .null, .null, .int 0, .int 0, .int 0, .int 0, .int 0, .int 0, .null, .null, .null, .null, .null, .int 0, .int 0, .int 0, .int 0, .null, .null, .int 0, .int 0, .int 0, .null, .null, .null, .int 0, .null, .int 0, .null, .int 0])), (q7, .inl (cA, 7, .inl (fun _ => 0)))] H := hP
  have hD : va_D A [(h9, .inr (8, [.int 0, .null, .null, .null, .null, .null, .int 0, .null, .int 0, .null, .null, .int 0, .int 0, .int 0, .int 0, .int 0, .int 0, .null, .null, .null, .null, .null, .int 0, .int 0, .int 0, .int 0, .null, .null, .int 0, .int 0, .int 0, .null, .null, .null, .int 0, .null, .int 0, .null, .int 0])), (q7, .inl (cA, 7, .inl (fun _ => 0)))] := hD
  refine va_putF (D := D) (ci := 8) (v := .ref q7) (ty := .array .int) (C := RX9) (T := TX9) (N := 39) (Ts := qm_G) hx hb hG qm_cs8 tyX9 tyX9_ok nmX9 hown hK hP hD hS 0 rfl rfl 1 (by decide) (hG _ qn_m979) (fun _ h9 => h9) rfl hin rfl (by decide +kernel) rfl rfl (Nat.le_of_ble_eq_true rfl) dX9_init_9 (fun H locs hP hD hS => ?_)
  have hP : va_P D vwCl [(h9, .inr (8, [.int 0, .ref q7, .null, .null, .null, .null, .int 0, .null, .int 0, .null, .null, .int 0, .int 0, .int 0, .int 0, .int 0, .int 0, .null, .null, .null, .null, .null, .int 0, .int 0, .int 0, .int 0, .null, .null, .int 0, .int 0, .int 0, .null, .null, .null, .int 0, .null, .int 0, .null, .int 0])), (q7, .inl (cA, 7, .inl (fun _ => 0)))] H := hP
  have hD : va_D A [(h9, .inr (8, [.int 0, .ref q7, .null, .null, .null, .null, .int 0, .null, .int 0, .null, .null, .int 0, .int 0, .int 0, .int 0, .int 0, .int 0, .null, .null, .null, .null, .null, .int 0, .int 0, .int 0, .int 0, .null, .null, .int 0, .int 0, .int 0, .null, .null, .null, .int 0, .null, .int 0, .null, .int 0])), (q7, .inl (cA, 7, .inl (fun _ => 0)))] := hD
  refine lv_aload_n hx hb dX9_init_12 rfl (lv_at hl 0 rfl) ?_
  refine lv_bipush hx hb dX9_init_13 rfl ?_
  refine qn_newa hx hb (hG _ qn_m152) hK hP hD hS hA (N := 7) (by decide) rfl (by decide) (Nat.le_of_ble_eq_true rfl) (Nat.le_of_ble_eq_true rfl) dX9_init_15 (fun q15 H hP hD hS => ?_)
  have hP : va_P D vwCl [(h9, .inr (8, [.int 0, .ref q7, .null, .null, .null, .null, .int 0, .null, .int 0, .null, .null, .int 0, .int 0, .int 0, .int 0, .int 0, .int 0, .null, .null, .null, .null, .null, .int 0, .int 0, .int 0, .int 0, .null, .null, .int 0, .int 0, .int 0, .null, .null, .null, .int 0, .null, .int 0, .null, .int 0])), (q7, .inl (cA, 7, .inl (fun _ => 0))), (q15, .inl (cA, 7, .inl (fun _ => 0)))] H := hP
  have hD : va_D A [(h9, .inr (8, [.int 0, .ref q7, .null, .null, .null, .null, .int 0, .null, .int 0, .null, .null, .int 0, .int 0, .int 0, .int 0, .int 0, .int 0, .null, .null, .null, .null, .null, .int 0, .int 0, .int 0, .int 0, .null, .null, .int 0, .int 0, .int 0, .null, .null, .null, .int 0, .null, .int 0, .null, .int 0])), (q7, .inl (cA, 7, .inl (fun _ => 0))), (q15, .inl (cA, 7, .inl (fun _ => 0)))] := hD
  refine va_putF (D := D) (ci := 8) (v := .ref q15) (ty := .array .int) (C := RX9) (T := TX9) (N := 39) (Ts := qm_G) hx hb hG qm_cs8 tyX9 tyX9_ok nmX9 hown hK hP hD hS 0 rfl rfl 2 (by decide) (hG _ qn_m980) (fun _ h9 => h9) rfl hin rfl (by decide +kernel) rfl rfl (Nat.le_of_ble_eq_true rfl) dX9_init_17 (fun H locs hP hD hS => ?_)
  have hP : va_P D vwCl [(h9, .inr (8, [.int 0, .ref q7, .ref q15, .null, .null, .null, .int 0, .null, .int 0, .null, .null, .int 0, .int 0, .int 0, .int 0, .int 0, .int 0, .null, .null, .null, .null, .null, .int 0, .int 0, .int 0, .int 0, .null, .null, .int 0, .int 0, .int 0, .null, .null, .null, .int 0, .null, .int 0, .null, .int 0])), (q7, .inl (cA, 7, .inl (fun _ => 0))), (q15, .inl (cA, 7, .inl (fun _ => 0)))] H := hP
  have hD : va_D A [(h9, .inr (8, [.int 0, .ref q7, .ref q15, .null, .null, .null, .int 0, .null, .int 0, .null, .null, .int 0, .int 0, .int 0, .int 0, .int 0, .int 0, .null, .null, .null, .null, .null, .int 0, .int 0, .int 0, .int 0, .null, .null, .int 0, .int 0, .int 0, .null, .null, .null, .int 0, .null, .int 0, .null, .int 0])), (q7, .inl (cA, 7, .inl (fun _ => 0))), (q15, .inl (cA, 7, .inl (fun _ => 0)))] := hD
  refine lv_aload_n hx hb dX9_init_20 rfl (lv_at hl 0 rfl) ?_
  refine lv_bipush hx hb dX9_init_21 rfl ?_
  refine qn_newa hx hb (hG _ qn_m152) hK hP hD hS hA (N := 7) (by decide) rfl (by decide) (Nat.le_of_ble_eq_true rfl) (Nat.le_of_ble_eq_true rfl) dX9_init_23 (fun q23 H hP hD hS => ?_)
  have hP : va_P D vwCl [(h9, .inr (8, [.int 0, .ref q7, .ref q15, .null, .null, .null, .int 0, .null, .int 0, .null, .null, .int 0, .int 0, .int 0, .int 0, .int 0, .int 0, .null, .null, .null, .null, .null, .int 0, .int 0, .int 0, .int 0, .null, .null, .int 0, .int 0, .int 0, .null, .null, .null, .int 0, .null, .int 0, .null, .int 0])), (q7, .inl (cA, 7, .inl (fun _ => 0))), (q15, .inl (cA, 7, .inl (fun _ => 0))), (q23, .inl (cA, 7, .inl (fun _ => 0)))] H := hP
  have hD : va_D A [(h9, .inr (8, [.int 0, .ref q7, .ref q15, .null, .null, .null, .int 0, .null, .int 0, .null, .null, .int 0, .int 0, .int 0, .int 0, .int 0, .int 0, .null, .null, .null, .null, .null, .int 0, .int 0, .int 0, .int 0, .null, .null, .int 0, .int 0, .int 0, .null, .null, .null, .int 0, .null, .int 0, .null, .int 0])), (q7, .inl (cA, 7, .inl (fun _ => 0))), (q15, .inl (cA, 7, .inl (fun _ => 0))), (q23, .inl (cA, 7, .inl (fun _ => 0)))] := hD
  refine va_putF (D := D) (ci := 8) (v := .ref q23) (ty := .array .int) (C := RX9) (T := TX9) (N := 39) (Ts := qm_G) hx hb hG qm_cs8 tyX9 tyX9_ok nmX9 hown hK hP hD hS 0 rfl rfl 3 (by decide) (hG _ qn_m981) (fun _ h9 => h9) rfl hin rfl (by decide +kernel) rfl rfl (Nat.le_of_ble_eq_true rfl) dX9_init_25 (fun H locs hP hD hS => ?_)
  have hP : va_P D vwCl [(h9, .inr (8, [.int 0, .ref q7, .ref q15, .ref q23, .null, .null, .int 0, .null, .int 0, .null, .null, .int 0, .int 0, .int 0, .int 0, .int 0, .int 0, .null, .null, .null, .null, .null, .int 0, .int 0, .int 0, .int 0, .null, .null, .int 0, .int 0, .int 0, .null, .null, .null, .int 0, .null, .int 0, .null, .int 0])), (q7, .inl (cA, 7, .inl (fun _ => 0))), (q15, .inl (cA, 7, .inl (fun _ => 0))), (q23, .inl (cA, 7, .inl (fun _ => 0)))] H := hP
  have hD : va_D A [(h9, .inr (8, [.int 0, .ref q7, .ref q15, .ref q23, .null, .null, .int 0, .null, .int 0, .null, .null, .int 0, .int 0, .int 0, .int 0, .int 0, .int 0, .null, .null, .null, .null, .null, .int 0, .int 0, .int 0, .int 0, .null, .null, .int 0, .int 0, .int 0, .null, .null, .null, .int 0, .null, .int 0, .null, .int 0])), (q7, .inl (cA, 7, .inl (fun _ => 0))), (q15, .inl (cA, 7, .inl (fun _ => 0))), (q23, .inl (cA, 7, .inl (fun _ => 0)))] := hD
  refine lv_aload_n hx hb dX9_init_28 rfl (lv_at hl 0 rfl) ?_
  refine lv_bipush hx hb dX9_init_29 rfl ?_
  refine qn_newa hx hb (hG _ qn_m152) hK hP hD hS hA (N := 7) (by decide) rfl (by decide) (Nat.le_of_ble_eq_true rfl) (Nat.le_of_ble_eq_true rfl) dX9_init_31 (fun q31 H hP hD hS => ?_)
  have hP : va_P D vwCl [(h9, .inr (8, [.int 0, .ref q7, .ref q15, .ref q23, .null, .null, .int 0, .null, .int 0, .null, .null, .int 0, .int 0, .int 0, .int 0, .int 0, .int 0, .null, .null, .null, .null, .null, .int 0, .int 0, .int 0, .int 0, .null, .null, .int 0, .int 0, .int 0, .null, .null, .null, .int 0, .null, .int 0, .null, .int 0])), (q7, .inl (cA, 7, .inl (fun _ => 0))), (q15, .inl (cA, 7, .inl (fun _ => 0))), (q23, .inl (cA, 7, .inl (fun _ => 0))), (q31, .inl (cA, 7, .inl (fun _ => 0)))] H := hP
  have hD : va_D A [(h9, .inr (8, [.int 0, .ref q7, .ref q15, .ref q23, .null, .null, .int 0, .null, .int 0, .null, .null, .int 0, .int 0, .int 0, .int 0, .int 0, .int 0, .null, .null, .null, .null, .null, .int 0, .int 0, .int 0, .int 0, .null, .null, .int 0, .int 0, .int 0, .null, .null, .null, .int 0, .null, .int 0, .null, .int 0])), (q7, .inl (cA, 7, .inl (fun _ => 0))), (q15, .inl (cA, 7, .inl (fun _ => 0))), (q23, .inl (cA, 7, .inl (fun _ => 0))), (q31, .inl (cA, 7, .inl (fun _ => 0)))] := hD
  refine va_putF (D := D) (ci := 8) (v := .ref q31) (ty := .array .int) (C := RX9) (T := TX9) (N := 39) (Ts := qm_G) hx hb hG qm_cs8 tyX9 tyX9_ok nmX9 hown hK hP hD hS 0 rfl rfl 4 (by decide) (hG _ qn_m982) (fun _ h9 => h9) rfl hin rfl (by decide +kernel) rfl rfl (Nat.le_of_ble_eq_true rfl) dX9_init_33 (fun H locs hP hD hS => ?_)
  have hP : va_P D vwCl [(h9, .inr (8, [.int 0, .ref q7, .ref q15, .ref q23, .ref q31, .null, .int 0, .null, .int 0, .null, .null, .int 0, .int 0, .int 0, .int 0, .int 0, .int 0, .null, .null, .null, .null, .null, .int 0, .int 0, .int 0, .int 0, .null, .null, .int 0, .int 0, .int 0, .null, .null, .null, .int 0, .null, .int 0, .null, .int 0])), (q7, .inl (cA, 7, .inl (fun _ => 0))), (q15, .inl (cA, 7, .inl (fun _ => 0))), (q23, .inl (cA, 7, .inl (fun _ => 0))), (q31, .inl (cA, 7, .inl (fun _ => 0)))] H := hP
  have hD : va_D A [(h9, .inr (8, [.int 0, .ref q7, .ref q15, .ref q23, .ref q31, .null, .int 0, .null, .int 0, .null, .null, .int 0, .int 0, .int 0, .int 0, .int 0, .int 0, .null, .null, .null, .null, .null, .int 0, .int 0, .int 0, .int 0, .null, .null, .int 0, .int 0, .int 0, .null, .null, .null, .int 0, .null, .int 0, .null, .int 0])), (q7, .inl (cA, 7, .inl (fun _ => 0))), (q15, .inl (cA, 7, .inl (fun _ => 0))), (q23, .inl (cA, 7, .inl (fun _ => 0))), (q31, .inl (cA, 7, .inl (fun _ => 0)))] := hD
  refine lv_aload_n hx hb dX9_init_36 rfl (lv_at hl 0 rfl) ?_
  refine lv_bipush hx hb dX9_init_37 rfl ?_
  refine qn_newa hx hb (hG _ qn_m152) hK hP hD hS hA (N := 7) (by decide) rfl (by decide) (Nat.le_of_ble_eq_true rfl) (Nat.le_of_ble_eq_true rfl) dX9_init_39 (fun q39 H hP hD hS => ?_)
  have hP : va_P D vwCl [(h9, .inr (8, [.int 0, .ref q7, .ref q15, .ref q23, .ref q31, .null, .int 0, .null, .int 0, .null, .null, .int 0, .int 0, .int 0, .int 0, .int 0, .int 0, .null, .null, .null, .null, .null, .int 0, .int 0, .int 0, .int 0, .null, .null, .int 0, .int 0, .int 0, .null, .null, .null, .int 0, .null, .int 0, .null, .int 0])), (q7, .inl (cA, 7, .inl (fun _ => 0))), (q15, .inl (cA, 7, .inl (fun _ => 0))), (q23, .inl (cA, 7, .inl (fun _ => 0))), (q31, .inl (cA, 7, .inl (fun _ => 0))), (q39, .inl (cA, 7, .inl (fun _ => 0)))] H := hP
  have hD : va_D A [(h9, .inr (8, [.int 0, .ref q7, .ref q15, .ref q23, .ref q31, .null, .int 0, .null, .int 0, .null, .null, .int 0, .int 0, .int 0, .int 0, .int 0, .int 0, .null, .null, .null, .null, .null, .int 0, .int 0, .int 0, .int 0, .null, .null, .int 0, .int 0, .int 0, .null, .null, .null, .int 0, .null, .int 0, .null, .int 0])), (q7, .inl (cA, 7, .inl (fun _ => 0))), (q15, .inl (cA, 7, .inl (fun _ => 0))), (q23, .inl (cA, 7, .inl (fun _ => 0))), (q31, .inl (cA, 7, .inl (fun _ => 0))), (q39, .inl (cA, 7, .inl (fun _ => 0)))] := hD
  refine va_putF (D := D) (ci := 8) (v := .ref q39) (ty := .array .int) (C := RX9) (T := TX9) (N := 39) (Ts := qm_G) hx hb hG qm_cs8 tyX9 tyX9_ok nmX9 hown hK hP hD hS 0 rfl rfl 5 (by decide) (hG _ qn_m983) (fun _ h9 => h9) rfl hin rfl (by decide +kernel) rfl rfl (Nat.le_of_ble_eq_true rfl) dX9_init_41 (fun H locs hP hD hS => ?_)
  have hP : va_P D vwCl [(h9, .inr (8, [.int 0, .ref q7, .ref q15, .ref q23, .ref q31, .ref q39, .int 0, .null, .int 0, .null, .null, .int 0, .int 0, .int 0, .int 0, .int 0, .int 0, .null, .null, .null, .null, .null, .int 0, .int 0, .int 0, .int 0, .null, .null, .int 0, .int 0, .int 0, .null, .null, .null, .int 0, .null, .int 0, .null, .int 0])), (q7, .inl (cA, 7, .inl (fun _ => 0))), (q15, .inl (cA, 7, .inl (fun _ => 0))), (q23, .inl (cA, 7, .inl (fun _ => 0))), (q31, .inl (cA, 7, .inl (fun _ => 0))), (q39, .inl (cA, 7, .inl (fun _ => 0)))] H := hP
  have hD : va_D A [(h9, .inr (8, [.int 0, .ref q7, .ref q15, .ref q23, .ref q31, .ref q39, .int 0, .null, .int 0, .null, .null, .int 0, .int 0, .int 0, .int 0, .int 0, .int 0, .null, .null, .null, .null, .null, .int 0, .int 0, .int 0, .int 0, .null, .null, .int 0, .int 0, .int 0, .null, .null, .null, .int 0, .null, .int 0, .null, .int 0])), (q7, .inl (cA, 7, .inl (fun _ => 0))), (q15, .inl (cA, 7, .inl (fun _ => 0))), (q23, .inl (cA, 7, .inl (fun _ => 0))), (q31, .inl (cA, 7, .inl (fun _ => 0))), (q39, .inl (cA, 7, .inl (fun _ => 0)))] := hD
  refine lv_aload_n hx hb dX9_init_44 rfl (lv_at hl 0 rfl) ?_
  refine lv_sipush hx hb dX9_init_45 rfl ?_
  refine qn_newa hx hb (hG _ qn_m152) hK hP hD hS hA (N := 160) (by decide) rfl (by decide) (Nat.le_of_ble_eq_true rfl) (Nat.le_of_ble_eq_true rfl) dX9_init_48 (fun q48 H hP hD hS => ?_)
  have hP : va_P D vwCl [(h9, .inr (8, [.int 0, .ref q7, .ref q15, .ref q23, .ref q31, .ref q39, .int 0, .null, .int 0, .null, .null, .int 0, .int 0, .int 0, .int 0, .int 0, .int 0, .null, .null, .null, .null, .null, .int 0, .int 0, .int 0, .int 0, .null, .null, .int 0, .int 0, .int 0, .null, .null, .null, .int 0, .null, .int 0, .null, .int 0])), (q7, .inl (cA, 7, .inl (fun _ => 0))), (q15, .inl (cA, 7, .inl (fun _ => 0))), (q23, .inl (cA, 7, .inl (fun _ => 0))), (q31, .inl (cA, 7, .inl (fun _ => 0))), (q39, .inl (cA, 7, .inl (fun _ => 0))), (q48, .inl (cA, 160, .inl (fun _ => 0)))] H := hP
  have hD : va_D A [(h9, .inr (8, [.int 0, .ref q7, .ref q15, .ref q23, .ref q31, .ref q39, .int 0, .null, .int 0, .null, .null, .int 0, .int 0, .int 0, .int 0, .int 0, .int 0, .null, .null, .null, .null, .null, .int 0, .int 0, .int 0, .int 0, .null, .null, .int 0, .int 0, .int 0, .null, .null, .null, .int 0, .null, .int 0, .null, .int 0])), (q7, .inl (cA, 7, .inl (fun _ => 0))), (q15, .inl (cA, 7, .inl (fun _ => 0))), (q23, .inl (cA, 7, .inl (fun _ => 0))), (q31, .inl (cA, 7, .inl (fun _ => 0))), (q39, .inl (cA, 7, .inl (fun _ => 0))), (q48, .inl (cA, 160, .inl (fun _ => 0)))] := hD
  refine va_putF (D := D) (ci := 8) (v := .ref q48) (ty := .array .int) (C := RX9) (T := TX9) (N := 39) (Ts := qm_G) hx hb hG qm_cs8 tyX9 tyX9_ok nmX9 hown hK hP hD hS 0 rfl rfl 7 (by decide) (hG _ qn_m985) (fun _ h9 => h9) rfl hin rfl (by decide +kernel) rfl rfl (Nat.le_of_ble_eq_true rfl) dX9_init_50 (fun H locs hP hD hS => ?_)
  have hP : va_P D vwCl [(h9, .inr (8, [.int 0, .ref q7, .ref q15, .ref q23, .ref q31, .ref q39, .int 0, .ref q48, .int 0, .null, .null, .int 0, .int 0, .int 0, .int 0, .int 0, .int 0, .null, .null, .null, .null, .null, .int 0, .int 0, .int 0, .int 0, .null, .null, .int 0, .int 0, .int 0, .null, .null, .null, .int 0, .null, .int 0, .null, .int 0])), (q7, .inl (cA, 7, .inl (fun _ => 0))), (q15, .inl (cA, 7, .inl (fun _ => 0))), (q23, .inl (cA, 7, .inl (fun _ => 0))), (q31, .inl (cA, 7, .inl (fun _ => 0))), (q39, .inl (cA, 7, .inl (fun _ => 0))), (q48, .inl (cA, 160, .inl (fun _ => 0)))] H := hP
  have hD : va_D A [(h9, .inr (8, [.int 0, .ref q7, .ref q15, .ref q23, .ref q31, .ref q39, .int 0, .ref q48, .int 0, .null, .null, .int 0, .int 0, .int 0, .int 0, .int 0, .int 0, .null, .null, .null, .null, .null, .int 0, .int 0, .int 0, .int 0, .null, .null, .int 0, .int 0, .int 0, .null, .null, .null, .int 0, .null, .int 0, .null, .int 0])), (q7, .inl (cA, 7, .inl (fun _ => 0))), (q15, .inl (cA, 7, .inl (fun _ => 0))), (q23, .inl (cA, 7, .inl (fun _ => 0))), (q31, .inl (cA, 7, .inl (fun _ => 0))), (q39, .inl (cA, 7, .inl (fun _ => 0))), (q48, .inl (cA, 160, .inl (fun _ => 0)))] := hD
  refine lv_aload_n hx hb dX9_init_53 rfl (lv_at hl 0 rfl) ?_
  refine lv_sipush hx hb dX9_init_54 rfl ?_
  refine qn_newa hx hb (hG _ qn_m152) hK hP hD hS hA (N := 1200) (by decide) rfl (by decide) (Nat.le_of_ble_eq_true rfl) (Nat.le_of_ble_eq_true rfl) dX9_init_57 (fun q57 H hP hD hS => ?_)
  have hP : va_P D vwCl [(h9, .inr (8, [.int 0, .ref q7, .ref q15, .ref q23, .ref q31, .ref q39, .int 0, .ref q48, .int 0, .null, .null, .int 0, .int 0, .int 0, .int 0, .int 0, .int 0, .null, .null, .null, .null, .null, .int 0, .int 0, .int 0, .int 0, .null, .null, .int 0, .int 0, .int 0, .null, .null, .null, .int 0, .null, .int 0, .null, .int 0])), (q7, .inl (cA, 7, .inl (fun _ => 0))), (q15, .inl (cA, 7, .inl (fun _ => 0))), (q23, .inl (cA, 7, .inl (fun _ => 0))), (q31, .inl (cA, 7, .inl (fun _ => 0))), (q39, .inl (cA, 7, .inl (fun _ => 0))), (q48, .inl (cA, 160, .inl (fun _ => 0))), (q57, .inl (cA, 1200, .inl (fun _ => 0)))] H := hP
  have hD : va_D A [(h9, .inr (8, [.int 0, .ref q7, .ref q15, .ref q23, .ref q31, .ref q39, .int 0, .ref q48, .int 0, .null, .null, .int 0, .int 0, .int 0, .int 0, .int 0, .int 0, .null, .null, .null, .null, .null, .int 0, .int 0, .int 0, .int 0, .null, .null, .int 0, .int 0, .int 0, .null, .null, .null, .int 0, .null, .int 0, .null, .int 0])), (q7, .inl (cA, 7, .inl (fun _ => 0))), (q15, .inl (cA, 7, .inl (fun _ => 0))), (q23, .inl (cA, 7, .inl (fun _ => 0))), (q31, .inl (cA, 7, .inl (fun _ => 0))), (q39, .inl (cA, 7, .inl (fun _ => 0))), (q48, .inl (cA, 160, .inl (fun _ => 0))), (q57, .inl (cA, 1200, .inl (fun _ => 0)))] := hD
  refine va_putF (D := D) (ci := 8) (v := .ref q57) (ty := .array .int) (C := RX9) (T := TX9) (N := 39) (Ts := qm_G) hx hb hG qm_cs8 tyX9 tyX9_ok nmX9 hown hK hP hD hS 0 rfl rfl 9 (by decide) (hG _ qn_m987) (fun _ h9 => h9) rfl hin rfl (by decide +kernel) rfl rfl (Nat.le_of_ble_eq_true rfl) dX9_init_59 (fun H locs hP hD hS => ?_)
  have hP : va_P D vwCl [(h9, .inr (8, [.int 0, .ref q7, .ref q15, .ref q23, .ref q31, .ref q39, .int 0, .ref q48, .int 0, .ref q57, .null, .int 0, .int 0, .int 0, .int 0, .int 0, .int 0, .null, .null, .null, .null, .null, .int 0, .int 0, .int 0, .int 0, .null, .null, .int 0, .int 0, .int 0, .null, .null, .null, .int 0, .null, .int 0, .null, .int 0])), (q7, .inl (cA, 7, .inl (fun _ => 0))), (q15, .inl (cA, 7, .inl (fun _ => 0))), (q23, .inl (cA, 7, .inl (fun _ => 0))), (q31, .inl (cA, 7, .inl (fun _ => 0))), (q39, .inl (cA, 7, .inl (fun _ => 0))), (q48, .inl (cA, 160, .inl (fun _ => 0))), (q57, .inl (cA, 1200, .inl (fun _ => 0)))] H := hP
  have hD : va_D A [(h9, .inr (8, [.int 0, .ref q7, .ref q15, .ref q23, .ref q31, .ref q39, .int 0, .ref q48, .int 0, .ref q57, .null, .int 0, .int 0, .int 0, .int 0, .int 0, .int 0, .null, .null, .null, .null, .null, .int 0, .int 0, .int 0, .int 0, .null, .null, .int 0, .int 0, .int 0, .null, .null, .null, .int 0, .null, .int 0, .null, .int 0])), (q7, .inl (cA, 7, .inl (fun _ => 0))), (q15, .inl (cA, 7, .inl (fun _ => 0))), (q23, .inl (cA, 7, .inl (fun _ => 0))), (q31, .inl (cA, 7, .inl (fun _ => 0))), (q39, .inl (cA, 7, .inl (fun _ => 0))), (q48, .inl (cA, 160, .inl (fun _ => 0))), (q57, .inl (cA, 1200, .inl (fun _ => 0)))] := hD
  refine lv_aload_n hx hb dX9_init_62 rfl (lv_at hl 0 rfl) ?_
  refine lv_bipush hx hb dX9_init_63 rfl ?_
  refine qn_newa hx hb (hG _ qn_m152) hK hP hD hS hA (N := 24) (by decide) rfl (by decide) (Nat.le_of_ble_eq_true rfl) (Nat.le_of_ble_eq_true rfl) dX9_init_65 (fun q65 H hP hD hS => ?_)
  have hP : va_P D vwCl [(h9, .inr (8, [.int 0, .ref q7, .ref q15, .ref q23, .ref q31, .ref q39, .int 0, .ref q48, .int 0, .ref q57, .null, .int 0, .int 0, .int 0, .int 0, .int 0, .int 0, .null, .null, .null, .null, .null, .int 0, .int 0, .int 0, .int 0, .null, .null, .int 0, .int 0, .int 0, .null, .null, .null, .int 0, .null, .int 0, .null, .int 0])), (q7, .inl (cA, 7, .inl (fun _ => 0))), (q15, .inl (cA, 7, .inl (fun _ => 0))), (q23, .inl (cA, 7, .inl (fun _ => 0))), (q31, .inl (cA, 7, .inl (fun _ => 0))), (q39, .inl (cA, 7, .inl (fun _ => 0))), (q48, .inl (cA, 160, .inl (fun _ => 0))), (q57, .inl (cA, 1200, .inl (fun _ => 0))), (q65, .inl (cA, 24, .inl (fun _ => 0)))] H := hP
  have hD : va_D A [(h9, .inr (8, [.int 0, .ref q7, .ref q15, .ref q23, .ref q31, .ref q39, .int 0, .ref q48, .int 0, .ref q57, .null, .int 0, .int 0, .int 0, .int 0, .int 0, .int 0, .null, .null, .null, .null, .null, .int 0, .int 0, .int 0, .int 0, .null, .null, .int 0, .int 0, .int 0, .null, .null, .null, .int 0, .null, .int 0, .null, .int 0])), (q7, .inl (cA, 7, .inl (fun _ => 0))), (q15, .inl (cA, 7, .inl (fun _ => 0))), (q23, .inl (cA, 7, .inl (fun _ => 0))), (q31, .inl (cA, 7, .inl (fun _ => 0))), (q39, .inl (cA, 7, .inl (fun _ => 0))), (q48, .inl (cA, 160, .inl (fun _ => 0))), (q57, .inl (cA, 1200, .inl (fun _ => 0))), (q65, .inl (cA, 24, .inl (fun _ => 0)))] := hD
  refine va_putF (D := D) (ci := 8) (v := .ref q65) (ty := .array .int) (C := RX9) (T := TX9) (N := 39) (Ts := qm_G) hx hb hG qm_cs8 tyX9 tyX9_ok nmX9 hown hK hP hD hS 0 rfl rfl 10 (by decide) (hG _ qn_m988) (fun _ h9 => h9) rfl hin rfl (by decide +kernel) rfl rfl (Nat.le_of_ble_eq_true rfl) dX9_init_67 (fun H locs hP hD hS => ?_)
  have hP : va_P D vwCl [(h9, .inr (8, [.int 0, .ref q7, .ref q15, .ref q23, .ref q31, .ref q39, .int 0, .ref q48, .int 0, .ref q57, .ref q65, .int 0, .int 0, .int 0, .int 0, .int 0, .int 0, .null, .null, .null, .null, .null, .int 0, .int 0, .int 0, .int 0, .null, .null, .int 0, .int 0, .int 0, .null, .null, .null, .int 0, .null, .int 0, .null, .int 0])), (q7, .inl (cA, 7, .inl (fun _ => 0))), (q15, .inl (cA, 7, .inl (fun _ => 0))), (q23, .inl (cA, 7, .inl (fun _ => 0))), (q31, .inl (cA, 7, .inl (fun _ => 0))), (q39, .inl (cA, 7, .inl (fun _ => 0))), (q48, .inl (cA, 160, .inl (fun _ => 0))), (q57, .inl (cA, 1200, .inl (fun _ => 0))), (q65, .inl (cA, 24, .inl (fun _ => 0)))] H := hP
  have hD : va_D A [(h9, .inr (8, [.int 0, .ref q7, .ref q15, .ref q23, .ref q31, .ref q39, .int 0, .ref q48, .int 0, .ref q57, .ref q65, .int 0, .int 0, .int 0, .int 0, .int 0, .int 0, .null, .null, .null, .null, .null, .int 0, .int 0, .int 0, .int 0, .null, .null, .int 0, .int 0, .int 0, .null, .null, .null, .int 0, .null, .int 0, .null, .int 0])), (q7, .inl (cA, 7, .inl (fun _ => 0))), (q15, .inl (cA, 7, .inl (fun _ => 0))), (q23, .inl (cA, 7, .inl (fun _ => 0))), (q31, .inl (cA, 7, .inl (fun _ => 0))), (q39, .inl (cA, 7, .inl (fun _ => 0))), (q48, .inl (cA, 160, .inl (fun _ => 0))), (q57, .inl (cA, 1200, .inl (fun _ => 0))), (q65, .inl (cA, 24, .inl (fun _ => 0)))] := hD
  refine lv_aload_n hx hb dX9_init_70 rfl (lv_at hl 0 rfl) ?_
  refine lv_bipush hx hb dX9_init_71 rfl ?_
  refine qn_newa hx hb (hG _ qn_m152) hK hP hD hS hA (N := 21) (by decide) rfl (by decide) (Nat.le_of_ble_eq_true rfl) (Nat.le_of_ble_eq_true rfl) dX9_init_73 (fun q73 H hP hD hS => ?_)
  have hP : va_P D vwCl [(h9, .inr (8, [.int 0, .ref q7, .ref q15, .ref q23, .ref q31, .ref q39, .int 0, .ref q48, .int 0, .ref q57, .ref q65, .int 0, .int 0, .int 0, .int 0, .int 0, .int 0, .null, .null, .null, .null, .null, .int 0, .int 0, .int 0, .int 0, .null, .null, .int 0, .int 0, .int 0, .null, .null, .null, .int 0, .null, .int 0, .null, .int 0])), (q7, .inl (cA, 7, .inl (fun _ => 0))), (q15, .inl (cA, 7, .inl (fun _ => 0))), (q23, .inl (cA, 7, .inl (fun _ => 0))), (q31, .inl (cA, 7, .inl (fun _ => 0))), (q39, .inl (cA, 7, .inl (fun _ => 0))), (q48, .inl (cA, 160, .inl (fun _ => 0))), (q57, .inl (cA, 1200, .inl (fun _ => 0))), (q65, .inl (cA, 24, .inl (fun _ => 0))), (q73, .inl (cA, 21, .inl (fun _ => 0)))] H := hP
  have hD : va_D A [(h9, .inr (8, [.int 0, .ref q7, .ref q15, .ref q23, .ref q31, .ref q39, .int 0, .ref q48, .int 0, .ref q57, .ref q65, .int 0, .int 0, .int 0, .int 0, .int 0, .int 0, .null, .null, .null, .null, .null, .int 0, .int 0, .int 0, .int 0, .null, .null, .int 0, .int 0, .int 0, .null, .null, .null, .int 0, .null, .int 0, .null, .int 0])), (q7, .inl (cA, 7, .inl (fun _ => 0))), (q15, .inl (cA, 7, .inl (fun _ => 0))), (q23, .inl (cA, 7, .inl (fun _ => 0))), (q31, .inl (cA, 7, .inl (fun _ => 0))), (q39, .inl (cA, 7, .inl (fun _ => 0))), (q48, .inl (cA, 160, .inl (fun _ => 0))), (q57, .inl (cA, 1200, .inl (fun _ => 0))), (q65, .inl (cA, 24, .inl (fun _ => 0))), (q73, .inl (cA, 21, .inl (fun _ => 0)))] := hD
  refine va_putF (D := D) (ci := 8) (v := .ref q73) (ty := .array .int) (C := RX9) (T := TX9) (N := 39) (Ts := qm_G) hx hb hG qm_cs8 tyX9 tyX9_ok nmX9 hown hK hP hD hS 0 rfl rfl 17 (by decide) (hG _ qn_m995) (fun _ h9 => h9) rfl hin rfl (by decide +kernel) rfl rfl (Nat.le_of_ble_eq_true rfl) dX9_init_75 (fun H locs hP hD hS => ?_)
  have hP : va_P D vwCl [(h9, .inr (8, [.int 0, .ref q7, .ref q15, .ref q23, .ref q31, .ref q39, .int 0, .ref q48, .int 0, .ref q57, .ref q65, .int 0, .int 0, .int 0, .int 0, .int 0, .int 0, .ref q73, .null, .null, .null, .null, .int 0, .int 0, .int 0, .int 0, .null, .null, .int 0, .int 0, .int 0, .null, .null, .null, .int 0, .null, .int 0, .null, .int 0])), (q7, .inl (cA, 7, .inl (fun _ => 0))), (q15, .inl (cA, 7, .inl (fun _ => 0))), (q23, .inl (cA, 7, .inl (fun _ => 0))), (q31, .inl (cA, 7, .inl (fun _ => 0))), (q39, .inl (cA, 7, .inl (fun _ => 0))), (q48, .inl (cA, 160, .inl (fun _ => 0))), (q57, .inl (cA, 1200, .inl (fun _ => 0))), (q65, .inl (cA, 24, .inl (fun _ => 0))), (q73, .inl (cA, 21, .inl (fun _ => 0)))] H := hP
  have hD : va_D A [(h9, .inr (8, [.int 0, .ref q7, .ref q15, .ref q23, .ref q31, .ref q39, .int 0, .ref q48, .int 0, .ref q57, .ref q65, .int 0, .int 0, .int 0, .int 0, .int 0, .int 0, .ref q73, .null, .null, .null, .null, .int 0, .int 0, .int 0, .int 0, .null, .null, .int 0, .int 0, .int 0, .null, .null, .null, .int 0, .null, .int 0, .null, .int 0])), (q7, .inl (cA, 7, .inl (fun _ => 0))), (q15, .inl (cA, 7, .inl (fun _ => 0))), (q23, .inl (cA, 7, .inl (fun _ => 0))), (q31, .inl (cA, 7, .inl (fun _ => 0))), (q39, .inl (cA, 7, .inl (fun _ => 0))), (q48, .inl (cA, 160, .inl (fun _ => 0))), (q57, .inl (cA, 1200, .inl (fun _ => 0))), (q65, .inl (cA, 24, .inl (fun _ => 0))), (q73, .inl (cA, 21, .inl (fun _ => 0)))] := hD
  refine lv_aload_n hx hb dX9_init_78 rfl (lv_at hl 0 rfl) ?_
  refine lv_iconst hx hb dX9_init_79 rfl ?_
  refine qn_newa hx hb (hG _ qn_m152) hK hP hD hS hA (N := 4) (by decide) rfl (by decide) (Nat.le_of_ble_eq_true rfl) (Nat.le_of_ble_eq_true rfl) dX9_init_80 (fun q80 H hP hD hS => ?_)
  have hP : va_P D vwCl [(h9, .inr (8, [.int 0, .ref q7, .ref q15, .ref q23, .ref q31, .ref q39, .int 0, .ref q48, .int 0, .ref q57, .ref q65, .int 0, .int 0, .int 0, .int 0, .int 0, .int 0, .ref q73, .null, .null, .null, .null, .int 0, .int 0, .int 0, .int 0, .null, .null, .int 0, .int 0, .int 0, .null, .null, .null, .int 0, .null, .int 0, .null, .int 0])), (q7, .inl (cA, 7, .inl (fun _ => 0))), (q15, .inl (cA, 7, .inl (fun _ => 0))), (q23, .inl (cA, 7, .inl (fun _ => 0))), (q31, .inl (cA, 7, .inl (fun _ => 0))), (q39, .inl (cA, 7, .inl (fun _ => 0))), (q48, .inl (cA, 160, .inl (fun _ => 0))), (q57, .inl (cA, 1200, .inl (fun _ => 0))), (q65, .inl (cA, 24, .inl (fun _ => 0))), (q73, .inl (cA, 21, .inl (fun _ => 0))), (q80, .inl (cA, 4, .inl (fun _ => 0)))] H := hP
  have hD : va_D A [(h9, .inr (8, [.int 0, .ref q7, .ref q15, .ref q23, .ref q31, .ref q39, .int 0, .ref q48, .int 0, .ref q57, .ref q65, .int 0, .int 0, .int 0, .int 0, .int 0, .int 0, .ref q73, .null, .null, .null, .null, .int 0, .int 0, .int 0, .int 0, .null, .null, .int 0, .int 0, .int 0, .null, .null, .null, .int 0, .null, .int 0, .null, .int 0])), (q7, .inl (cA, 7, .inl (fun _ => 0))), (q15, .inl (cA, 7, .inl (fun _ => 0))), (q23, .inl (cA, 7, .inl (fun _ => 0))), (q31, .inl (cA, 7, .inl (fun _ => 0))), (q39, .inl (cA, 7, .inl (fun _ => 0))), (q48, .inl (cA, 160, .inl (fun _ => 0))), (q57, .inl (cA, 1200, .inl (fun _ => 0))), (q65, .inl (cA, 24, .inl (fun _ => 0))), (q73, .inl (cA, 21, .inl (fun _ => 0))), (q80, .inl (cA, 4, .inl (fun _ => 0)))] := hD
  refine qn_seg51 hx hb hK (j := 10) rfl hP hD hS (fun H locs hP hD hS => ?_)
  have hP : va_P D vwCl [(h9, .inr (8, [.int 0, .ref q7, .ref q15, .ref q23, .ref q31, .ref q39, .int 0, .ref q48, .int 0, .ref q57, .ref q65, .int 0, .int 0, .int 0, .int 0, .int 0, .int 0, .ref q73, .null, .null, .null, .null, .int 0, .int 0, .int 0, .int 0, .null, .null, .int 0, .int 0, .int 0, .null, .null, .null, .int 0, .null, .int 0, .null, .int 0])), (q7, .inl (cA, 7, .inl (fun _ => 0))), (q15, .inl (cA, 7, .inl (fun _ => 0))), (q23, .inl (cA, 7, .inl (fun _ => 0))), (q31, .inl (cA, 7, .inl (fun _ => 0))), (q39, .inl (cA, 7, .inl (fun _ => 0))), (q48, .inl (cA, 160, .inl (fun _ => 0))), (q57, .inl (cA, 1200, .inl (fun _ => 0))), (q65, .inl (cA, 24, .inl (fun _ => 0))), (q73, .inl (cA, 21, .inl (fun _ => 0))), (q80, .inl (cA, 4, .inl (qn_ro qn_L51 4)))] H := hP
  have hD : va_D A [(h9, .inr (8, [.int 0, .ref q7, .ref q15, .ref q23, .ref q31, .ref q39, .int 0, .ref q48, .int 0, .ref q57, .ref q65, .int 0, .int 0, .int 0, .int 0, .int 0, .int 0, .ref q73, .null, .null, .null, .null, .int 0, .int 0, .int 0, .int 0, .null, .null, .int 0, .int 0, .int 0, .null, .null, .null, .int 0, .null, .int 0, .null, .int 0])), (q7, .inl (cA, 7, .inl (fun _ => 0))), (q15, .inl (cA, 7, .inl (fun _ => 0))), (q23, .inl (cA, 7, .inl (fun _ => 0))), (q31, .inl (cA, 7, .inl (fun _ => 0))), (q39, .inl (cA, 7, .inl (fun _ => 0))), (q48, .inl (cA, 160, .inl (fun _ => 0))), (q57, .inl (cA, 1200, .inl (fun _ => 0))), (q65, .inl (cA, 24, .inl (fun _ => 0))), (q73, .inl (cA, 21, .inl (fun _ => 0))), (q80, .inl (cA, 4, .inl (qn_ro qn_L51 4)))] := hD
  refine va_putF (D := D) (ci := 8) (v := .ref q80) (ty := .array .int) (C := RX9) (T := TX9) (N := 39) (Ts := qm_G) hx hb hG qm_cs8 tyX9 tyX9_ok nmX9 hown hK hP hD hS 0 rfl rfl 18 (by decide) (hG _ qn_m996) (fun _ h9 => h9) rfl hin rfl (by decide +kernel) rfl rfl (Nat.le_of_ble_eq_true rfl) dX9_init_98 (fun H locs hP hD hS => ?_)
  have hP : va_P D vwCl [(h9, .inr (8, [.int 0, .ref q7, .ref q15, .ref q23, .ref q31, .ref q39, .int 0, .ref q48, .int 0, .ref q57, .ref q65, .int 0, .int 0, .int 0, .int 0, .int 0, .int 0, .ref q73, .ref q80, .null, .null, .null, .int 0, .int 0, .int 0, .int 0, .null, .null, .int 0, .int 0, .int 0, .null, .null, .null, .int 0, .null, .int 0, .null, .int 0])), (q7, .inl (cA, 7, .inl (fun _ => 0))), (q15, .inl (cA, 7, .inl (fun _ => 0))), (q23, .inl (cA, 7, .inl (fun _ => 0))), (q31, .inl (cA, 7, .inl (fun _ => 0))), (q39, .inl (cA, 7, .inl (fun _ => 0))), (q48, .inl (cA, 160, .inl (fun _ => 0))), (q57, .inl (cA, 1200, .inl (fun _ => 0))), (q65, .inl (cA, 24, .inl (fun _ => 0))), (q73, .inl (cA, 21, .inl (fun _ => 0))), (q80, .inl (cA, 4, .inl (qn_ro qn_L51 4)))] H := hP
  have hD : va_D A [(h9, .inr (8, [.int 0, .ref q7, .ref q15, .ref q23, .ref q31, .ref q39, .int 0, .ref q48, .int 0, .ref q57, .ref q65, .int 0, .int 0, .int 0, .int 0, .int 0, .int 0, .ref q73, .ref q80, .null, .null, .null, .int 0, .int 0, .int 0, .int 0, .null, .null, .int 0, .int 0, .int 0, .null, .null, .null, .int 0, .null, .int 0, .null, .int 0])), (q7, .inl (cA, 7, .inl (fun _ => 0))), (q15, .inl (cA, 7, .inl (fun _ => 0))), (q23, .inl (cA, 7, .inl (fun _ => 0))), (q31, .inl (cA, 7, .inl (fun _ => 0))), (q39, .inl (cA, 7, .inl (fun _ => 0))), (q48, .inl (cA, 160, .inl (fun _ => 0))), (q57, .inl (cA, 1200, .inl (fun _ => 0))), (q65, .inl (cA, 24, .inl (fun _ => 0))), (q73, .inl (cA, 21, .inl (fun _ => 0))), (q80, .inl (cA, 4, .inl (qn_ro qn_L51 4)))] := hD
  refine lv_aload_n hx hb dX9_init_101 rfl (lv_at hl 0 rfl) ?_
  refine lv_iconst hx hb dX9_init_102 rfl ?_
  refine qn_newa hx hb (hG _ qn_m152) hK hP hD hS hA (N := 4) (by decide) rfl (by decide) (Nat.le_of_ble_eq_true rfl) (Nat.le_of_ble_eq_true rfl) dX9_init_103 (fun q103 H hP hD hS => ?_)
  have hP : va_P D vwCl [(h9, .inr (8, [.int 0, .ref q7, .ref q15, .ref q23, .ref q31, .ref q39, .int 0, .ref q48, .int 0, .ref q57, .ref q65, .int 0, .int 0, .int 0, .int 0, .int 0, .int 0, .ref q73, .ref q80, .null, .null, .null, .int 0, .int 0, .int 0, .int 0, .null, .null, .int 0, .int 0, .int 0, .null, .null, .null, .int 0, .null, .int 0, .null, .int 0])), (q7, .inl (cA, 7, .inl (fun _ => 0))), (q15, .inl (cA, 7, .inl (fun _ => 0))), (q23, .inl (cA, 7, .inl (fun _ => 0))), (q31, .inl (cA, 7, .inl (fun _ => 0))), (q39, .inl (cA, 7, .inl (fun _ => 0))), (q48, .inl (cA, 160, .inl (fun _ => 0))), (q57, .inl (cA, 1200, .inl (fun _ => 0))), (q65, .inl (cA, 24, .inl (fun _ => 0))), (q73, .inl (cA, 21, .inl (fun _ => 0))), (q80, .inl (cA, 4, .inl (qn_ro qn_L51 4))), (q103, .inl (cA, 4, .inl (fun _ => 0)))] H := hP
  have hD : va_D A [(h9, .inr (8, [.int 0, .ref q7, .ref q15, .ref q23, .ref q31, .ref q39, .int 0, .ref q48, .int 0, .ref q57, .ref q65, .int 0, .int 0, .int 0, .int 0, .int 0, .int 0, .ref q73, .ref q80, .null, .null, .null, .int 0, .int 0, .int 0, .int 0, .null, .null, .int 0, .int 0, .int 0, .null, .null, .null, .int 0, .null, .int 0, .null, .int 0])), (q7, .inl (cA, 7, .inl (fun _ => 0))), (q15, .inl (cA, 7, .inl (fun _ => 0))), (q23, .inl (cA, 7, .inl (fun _ => 0))), (q31, .inl (cA, 7, .inl (fun _ => 0))), (q39, .inl (cA, 7, .inl (fun _ => 0))), (q48, .inl (cA, 160, .inl (fun _ => 0))), (q57, .inl (cA, 1200, .inl (fun _ => 0))), (q65, .inl (cA, 24, .inl (fun _ => 0))), (q73, .inl (cA, 21, .inl (fun _ => 0))), (q80, .inl (cA, 4, .inl (qn_ro qn_L51 4))), (q103, .inl (cA, 4, .inl (fun _ => 0)))] := hD
  refine va_putF (D := D) (ci := 8) (v := .ref q103) (ty := .array .int) (C := RX9) (T := TX9) (N := 39) (Ts := qm_G) hx hb hG qm_cs8 tyX9 tyX9_ok nmX9 hown hK hP hD hS 0 rfl rfl 19 (by decide) (hG _ qn_m997) (fun _ h9 => h9) rfl hin rfl (by decide +kernel) rfl rfl (Nat.le_of_ble_eq_true rfl) dX9_init_105 (fun H locs hP hD hS => ?_)
  have hP : va_P D vwCl [(h9, .inr (8, [.int 0, .ref q7, .ref q15, .ref q23, .ref q31, .ref q39, .int 0, .ref q48, .int 0, .ref q57, .ref q65, .int 0, .int 0, .int 0, .int 0, .int 0, .int 0, .ref q73, .ref q80, .ref q103, .null, .null, .int 0, .int 0, .int 0, .int 0, .null, .null, .int 0, .int 0, .int 0, .null, .null, .null, .int 0, .null, .int 0, .null, .int 0])), (q7, .inl (cA, 7, .inl (fun _ => 0))), (q15, .inl (cA, 7, .inl (fun _ => 0))), (q23, .inl (cA, 7, .inl (fun _ => 0))), (q31, .inl (cA, 7, .inl (fun _ => 0))), (q39, .inl (cA, 7, .inl (fun _ => 0))), (q48, .inl (cA, 160, .inl (fun _ => 0))), (q57, .inl (cA, 1200, .inl (fun _ => 0))), (q65, .inl (cA, 24, .inl (fun _ => 0))), (q73, .inl (cA, 21, .inl (fun _ => 0))), (q80, .inl (cA, 4, .inl (qn_ro qn_L51 4))), (q103, .inl (cA, 4, .inl (fun _ => 0)))] H := hP
  have hD : va_D A [(h9, .inr (8, [.int 0, .ref q7, .ref q15, .ref q23, .ref q31, .ref q39, .int 0, .ref q48, .int 0, .ref q57, .ref q65, .int 0, .int 0, .int 0, .int 0, .int 0, .int 0, .ref q73, .ref q80, .ref q103, .null, .null, .int 0, .int 0, .int 0, .int 0, .null, .null, .int 0, .int 0, .int 0, .null, .null, .null, .int 0, .null, .int 0, .null, .int 0])), (q7, .inl (cA, 7, .inl (fun _ => 0))), (q15, .inl (cA, 7, .inl (fun _ => 0))), (q23, .inl (cA, 7, .inl (fun _ => 0))), (q31, .inl (cA, 7, .inl (fun _ => 0))), (q39, .inl (cA, 7, .inl (fun _ => 0))), (q48, .inl (cA, 160, .inl (fun _ => 0))), (q57, .inl (cA, 1200, .inl (fun _ => 0))), (q65, .inl (cA, 24, .inl (fun _ => 0))), (q73, .inl (cA, 21, .inl (fun _ => 0))), (q80, .inl (cA, 4, .inl (qn_ro qn_L51 4))), (q103, .inl (cA, 4, .inl (fun _ => 0)))] := hD
  refine lv_aload_n hx hb dX9_init_108 rfl (lv_at hl 0 rfl) ?_
  refine lv_sipush hx hb dX9_init_109 rfl ?_
  refine qn_newa hx hb (hG _ qn_m152) hK hP hD hS hA (N := 160) (by decide) rfl (by decide) (Nat.le_of_ble_eq_true rfl) (Nat.le_of_ble_eq_true rfl) dX9_init_112 (fun q112 H hP hD hS => ?_)
  have hP : va_P D vwCl [(h9, .inr (8, [.int 0, .ref q7, .ref q15, .ref q23, .ref q31, .ref q39, .int 0, .ref q48, .int 0, .ref q57, .ref q65, .int 0, .int 0, .int 0, .int 0, .int 0, .int 0, .ref q73, .ref q80, .ref q103, .null, .null, .int 0, .int 0, .int 0, .int 0, .null, .null, .int 0, .int 0, .int 0, .null, .null, .null, .int 0, .null, .int 0, .null, .int 0])), (q7, .inl (cA, 7, .inl (fun _ => 0))), (q15, .inl (cA, 7, .inl (fun _ => 0))), (q23, .inl (cA, 7, .inl (fun _ => 0))), (q31, .inl (cA, 7, .inl (fun _ => 0))), (q39, .inl (cA, 7, .inl (fun _ => 0))), (q48, .inl (cA, 160, .inl (fun _ => 0))), (q57, .inl (cA, 1200, .inl (fun _ => 0))), (q65, .inl (cA, 24, .inl (fun _ => 0))), (q73, .inl (cA, 21, .inl (fun _ => 0))), (q80, .inl (cA, 4, .inl (qn_ro qn_L51 4))), (q103, .inl (cA, 4, .inl (fun _ => 0))), (q112, .inl (cA, 160, .inl (fun _ => 0)))] H := hP
  have hD : va_D A [(h9, .inr (8, [.int 0, .ref q7, .ref q15, .ref q23, .ref q31, .ref q39, .int 0, .ref q48, .int 0, .ref q57, .ref q65, .int 0, .int 0, .int 0, .int 0, .int 0, .int 0, .ref q73, .ref q80, .ref q103, .null, .null, .int 0, .int 0, .int 0, .int 0, .null, .null, .int 0, .int 0, .int 0, .null, .null, .null, .int 0, .null, .int 0, .null, .int 0])), (q7, .inl (cA, 7, .inl (fun _ => 0))), (q15, .inl (cA, 7, .inl (fun _ => 0))), (q23, .inl (cA, 7, .inl (fun _ => 0))), (q31, .inl (cA, 7, .inl (fun _ => 0))), (q39, .inl (cA, 7, .inl (fun _ => 0))), (q48, .inl (cA, 160, .inl (fun _ => 0))), (q57, .inl (cA, 1200, .inl (fun _ => 0))), (q65, .inl (cA, 24, .inl (fun _ => 0))), (q73, .inl (cA, 21, .inl (fun _ => 0))), (q80, .inl (cA, 4, .inl (qn_ro qn_L51 4))), (q103, .inl (cA, 4, .inl (fun _ => 0))), (q112, .inl (cA, 160, .inl (fun _ => 0)))] := hD
  refine va_putF (D := D) (ci := 8) (v := .ref q112) (ty := .array .int) (C := RX9) (T := TX9) (N := 39) (Ts := qm_G) hx hb hG qm_cs8 tyX9 tyX9_ok nmX9 hown hK hP hD hS 0 rfl rfl 20 (by decide) (hG _ qn_m998) (fun _ h9 => h9) rfl hin rfl (by decide +kernel) rfl rfl (Nat.le_of_ble_eq_true rfl) dX9_init_114 (fun H locs hP hD hS => ?_)
  have hP : va_P D vwCl [(h9, .inr (8, [.int 0, .ref q7, .ref q15, .ref q23, .ref q31, .ref q39, .int 0, .ref q48, .int 0, .ref q57, .ref q65, .int 0, .int 0, .int 0, .int 0, .int 0, .int 0, .ref q73, .ref q80, .ref q103, .ref q112, .null, .int 0, .int 0, .int 0, .int 0, .null, .null, .int 0, .int 0, .int 0, .null, .null, .null, .int 0, .null, .int 0, .null, .int 0])), (q7, .inl (cA, 7, .inl (fun _ => 0))), (q15, .inl (cA, 7, .inl (fun _ => 0))), (q23, .inl (cA, 7, .inl (fun _ => 0))), (q31, .inl (cA, 7, .inl (fun _ => 0))), (q39, .inl (cA, 7, .inl (fun _ => 0))), (q48, .inl (cA, 160, .inl (fun _ => 0))), (q57, .inl (cA, 1200, .inl (fun _ => 0))), (q65, .inl (cA, 24, .inl (fun _ => 0))), (q73, .inl (cA, 21, .inl (fun _ => 0))), (q80, .inl (cA, 4, .inl (qn_ro qn_L51 4))), (q103, .inl (cA, 4, .inl (fun _ => 0))), (q112, .inl (cA, 160, .inl (fun _ => 0)))] H := hP
  have hD : va_D A [(h9, .inr (8, [.int 0, .ref q7, .ref q15, .ref q23, .ref q31, .ref q39, .int 0, .ref q48, .int 0, .ref q57, .ref q65, .int 0, .int 0, .int 0, .int 0, .int 0, .int 0, .ref q73, .ref q80, .ref q103, .ref q112, .null, .int 0, .int 0, .int 0, .int 0, .null, .null, .int 0, .int 0, .int 0, .null, .null, .null, .int 0, .null, .int 0, .null, .int 0])), (q7, .inl (cA, 7, .inl (fun _ => 0))), (q15, .inl (cA, 7, .inl (fun _ => 0))), (q23, .inl (cA, 7, .inl (fun _ => 0))), (q31, .inl (cA, 7, .inl (fun _ => 0))), (q39, .inl (cA, 7, .inl (fun _ => 0))), (q48, .inl (cA, 160, .inl (fun _ => 0))), (q57, .inl (cA, 1200, .inl (fun _ => 0))), (q65, .inl (cA, 24, .inl (fun _ => 0))), (q73, .inl (cA, 21, .inl (fun _ => 0))), (q80, .inl (cA, 4, .inl (qn_ro qn_L51 4))), (q103, .inl (cA, 4, .inl (fun _ => 0))), (q112, .inl (cA, 160, .inl (fun _ => 0)))] := hD
  refine lv_aload_n hx hb dX9_init_117 rfl (lv_at hl 0 rfl) ?_
  refine lv_bipush hx hb dX9_init_118 rfl ?_
  refine qn_newa hx hb (hG _ qn_m152) hK hP hD hS hA (N := 47) (by decide) rfl (by decide) (Nat.le_of_ble_eq_true rfl) (Nat.le_of_ble_eq_true rfl) dX9_init_120 (fun q120 H hP hD hS => ?_)
  have hP : va_P D vwCl [(h9, .inr (8, [.int 0, .ref q7, .ref q15, .ref q23, .ref q31, .ref q39, .int 0, .ref q48, .int 0, .ref q57, .ref q65, .int 0, .int 0, .int 0, .int 0, .int 0, .int 0, .ref q73, .ref q80, .ref q103, .ref q112, .null, .int 0, .int 0, .int 0, .int 0, .null, .null, .int 0, .int 0, .int 0, .null, .null, .null, .int 0, .null, .int 0, .null, .int 0])), (q7, .inl (cA, 7, .inl (fun _ => 0))), (q15, .inl (cA, 7, .inl (fun _ => 0))), (q23, .inl (cA, 7, .inl (fun _ => 0))), (q31, .inl (cA, 7, .inl (fun _ => 0))), (q39, .inl (cA, 7, .inl (fun _ => 0))), (q48, .inl (cA, 160, .inl (fun _ => 0))), (q57, .inl (cA, 1200, .inl (fun _ => 0))), (q65, .inl (cA, 24, .inl (fun _ => 0))), (q73, .inl (cA, 21, .inl (fun _ => 0))), (q80, .inl (cA, 4, .inl (qn_ro qn_L51 4))), (q103, .inl (cA, 4, .inl (fun _ => 0))), (q112, .inl (cA, 160, .inl (fun _ => 0))), (q120, .inl (cA, 47, .inl (fun _ => 0)))] H := hP
  have hD : va_D A [(h9, .inr (8, [.int 0, .ref q7, .ref q15, .ref q23, .ref q31, .ref q39, .int 0, .ref q48, .int 0, .ref q57, .ref q65, .int 0, .int 0, .int 0, .int 0, .int 0, .int 0, .ref q73, .ref q80, .ref q103, .ref q112, .null, .int 0, .int 0, .int 0, .int 0, .null, .null, .int 0, .int 0, .int 0, .null, .null, .null, .int 0, .null, .int 0, .null, .int 0])), (q7, .inl (cA, 7, .inl (fun _ => 0))), (q15, .inl (cA, 7, .inl (fun _ => 0))), (q23, .inl (cA, 7, .inl (fun _ => 0))), (q31, .inl (cA, 7, .inl (fun _ => 0))), (q39, .inl (cA, 7, .inl (fun _ => 0))), (q48, .inl (cA, 160, .inl (fun _ => 0))), (q57, .inl (cA, 1200, .inl (fun _ => 0))), (q65, .inl (cA, 24, .inl (fun _ => 0))), (q73, .inl (cA, 21, .inl (fun _ => 0))), (q80, .inl (cA, 4, .inl (qn_ro qn_L51 4))), (q103, .inl (cA, 4, .inl (fun _ => 0))), (q112, .inl (cA, 160, .inl (fun _ => 0))), (q120, .inl (cA, 47, .inl (fun _ => 0)))] := hD
  refine qn_seg54 hx hb hK (j := 13) rfl hP hD hS (fun H locs hP hD hS => ?_)
  have hP : va_P D vwCl [(h9, .inr (8, [.int 0, .ref q7, .ref q15, .ref q23, .ref q31, .ref q39, .int 0, .ref q48, .int 0, .ref q57, .ref q65, .int 0, .int 0, .int 0, .int 0, .int 0, .int 0, .ref q73, .ref q80, .ref q103, .ref q112, .null, .int 0, .int 0, .int 0, .int 0, .null, .null, .int 0, .int 0, .int 0, .null, .null, .null, .int 0, .null, .int 0, .null, .int 0])), (q7, .inl (cA, 7, .inl (fun _ => 0))), (q15, .inl (cA, 7, .inl (fun _ => 0))), (q23, .inl (cA, 7, .inl (fun _ => 0))), (q31, .inl (cA, 7, .inl (fun _ => 0))), (q39, .inl (cA, 7, .inl (fun _ => 0))), (q48, .inl (cA, 160, .inl (fun _ => 0))), (q57, .inl (cA, 1200, .inl (fun _ => 0))), (q65, .inl (cA, 24, .inl (fun _ => 0))), (q73, .inl (cA, 21, .inl (fun _ => 0))), (q80, .inl (cA, 4, .inl (qn_ro qn_L51 4))), (q103, .inl (cA, 4, .inl (fun _ => 0))), (q112, .inl (cA, 160, .inl (fun _ => 0))), (q120, .inl (cA, 47, .inl (qn_ro qn_L54 47)))] H := hP
  have hD : va_D A [(h9, .inr (8, [.int 0, .ref q7, .ref q15, .ref q23, .ref q31, .ref q39, .int 0, .ref q48, .int 0, .ref q57, .ref q65, .int 0, .int 0, .int 0, .int 0, .int 0, .int 0, .ref q73, .ref q80, .ref q103, .ref q112, .null, .int 0, .int 0, .int 0, .int 0, .null, .null, .int 0, .int 0, .int 0, .null, .null, .null, .int 0, .null, .int 0, .null, .int 0])), (q7, .inl (cA, 7, .inl (fun _ => 0))), (q15, .inl (cA, 7, .inl (fun _ => 0))), (q23, .inl (cA, 7, .inl (fun _ => 0))), (q31, .inl (cA, 7, .inl (fun _ => 0))), (q39, .inl (cA, 7, .inl (fun _ => 0))), (q48, .inl (cA, 160, .inl (fun _ => 0))), (q57, .inl (cA, 1200, .inl (fun _ => 0))), (q65, .inl (cA, 24, .inl (fun _ => 0))), (q73, .inl (cA, 21, .inl (fun _ => 0))), (q80, .inl (cA, 4, .inl (qn_ro qn_L51 4))), (q103, .inl (cA, 4, .inl (fun _ => 0))), (q112, .inl (cA, 160, .inl (fun _ => 0))), (q120, .inl (cA, 47, .inl (qn_ro qn_L54 47)))] := hD
  refine va_putF (D := D) (ci := 8) (v := .ref q120) (ty := .array .int) (C := RX9) (T := TX9) (N := 39) (Ts := qm_G) hx hb hG qm_cs8 tyX9 tyX9_ok nmX9 hown hK hP hD hS 0 rfl rfl 21 (by decide) (hG _ qn_m999) (fun _ h9 => h9) rfl hin rfl (by decide +kernel) rfl rfl (Nat.le_of_ble_eq_true rfl) dX9_init_398 (fun H locs hP hD hS => ?_)
  have hP : va_P D vwCl [(h9, .inr (8, [.int 0, .ref q7, .ref q15, .ref q23, .ref q31, .ref q39, .int 0, .ref q48, .int 0, .ref q57, .ref q65, .int 0, .int 0, .int 0, .int 0, .int 0, .int 0, .ref q73, .ref q80, .ref q103, .ref q112, .ref q120, .int 0, .int 0, .int 0, .int 0, .null, .null, .int 0, .int 0, .int 0, .null, .null, .null, .int 0, .null, .int 0, .null, .int 0])), (q7, .inl (cA, 7, .inl (fun _ => 0))), (q15, .inl (cA, 7, .inl (fun _ => 0))), (q23, .inl (cA, 7, .inl (fun _ => 0))), (q31, .inl (cA, 7, .inl (fun _ => 0))), (q39, .inl (cA, 7, .inl (fun _ => 0))), (q48, .inl (cA, 160, .inl (fun _ => 0))), (q57, .inl (cA, 1200, .inl (fun _ => 0))), (q65, .inl (cA, 24, .inl (fun _ => 0))), (q73, .inl (cA, 21, .inl (fun _ => 0))), (q80, .inl (cA, 4, .inl (qn_ro qn_L51 4))), (q103, .inl (cA, 4, .inl (fun _ => 0))), (q112, .inl (cA, 160, .inl (fun _ => 0))), (q120, .inl (cA, 47, .inl (qn_ro qn_L54 47)))] H := hP
  have hD : va_D A [(h9, .inr (8, [.int 0, .ref q7, .ref q15, .ref q23, .ref q31, .ref q39, .int 0, .ref q48, .int 0, .ref q57, .ref q65, .int 0, .int 0, .int 0, .int 0, .int 0, .int 0, .ref q73, .ref q80, .ref q103, .ref q112, .ref q120, .int 0, .int 0, .int 0, .int 0, .null, .null, .int 0, .int 0, .int 0, .null, .null, .null, .int 0, .null, .int 0, .null, .int 0])), (q7, .inl (cA, 7, .inl (fun _ => 0))), (q15, .inl (cA, 7, .inl (fun _ => 0))), (q23, .inl (cA, 7, .inl (fun _ => 0))), (q31, .inl (cA, 7, .inl (fun _ => 0))), (q39, .inl (cA, 7, .inl (fun _ => 0))), (q48, .inl (cA, 160, .inl (fun _ => 0))), (q57, .inl (cA, 1200, .inl (fun _ => 0))), (q65, .inl (cA, 24, .inl (fun _ => 0))), (q73, .inl (cA, 21, .inl (fun _ => 0))), (q80, .inl (cA, 4, .inl (qn_ro qn_L51 4))), (q103, .inl (cA, 4, .inl (fun _ => 0))), (q112, .inl (cA, 160, .inl (fun _ => 0))), (q120, .inl (cA, 47, .inl (qn_ro qn_L54 47)))] := hD
  refine lv_aload_n hx hb dX9_init_401 rfl (lv_at hl 0 rfl) ?_
  refine lv_bipush hx hb dX9_init_402 rfl ?_
  refine qn_newa hx hb (hG _ qn_m152) hK hP hD hS hA (N := 96) (by decide) rfl (by decide) (Nat.le_of_ble_eq_true rfl) (Nat.le_of_ble_eq_true rfl) dX9_init_404 (fun q404 H hP hD hS => ?_)
  have hP : va_P D vwCl [(h9, .inr (8, [.int 0, .ref q7, .ref q15, .ref q23, .ref q31, .ref q39, .int 0, .ref q48, .int 0, .ref q57, .ref q65, .int 0, .int 0, .int 0, .int 0, .int 0, .int 0, .ref q73, .ref q80, .ref q103, .ref q112, .ref q120, .int 0, .int 0, .int 0, .int 0, .null, .null, .int 0, .int 0, .int 0, .null, .null, .null, .int 0, .null, .int 0, .null, .int 0])), (q7, .inl (cA, 7, .inl (fun _ => 0))), (q15, .inl (cA, 7, .inl (fun _ => 0))), (q23, .inl (cA, 7, .inl (fun _ => 0))), (q31, .inl (cA, 7, .inl (fun _ => 0))), (q39, .inl (cA, 7, .inl (fun _ => 0))), (q48, .inl (cA, 160, .inl (fun _ => 0))), (q57, .inl (cA, 1200, .inl (fun _ => 0))), (q65, .inl (cA, 24, .inl (fun _ => 0))), (q73, .inl (cA, 21, .inl (fun _ => 0))), (q80, .inl (cA, 4, .inl (qn_ro qn_L51 4))), (q103, .inl (cA, 4, .inl (fun _ => 0))), (q112, .inl (cA, 160, .inl (fun _ => 0))), (q120, .inl (cA, 47, .inl (qn_ro qn_L54 47))), (q404, .inl (cA, 96, .inl (fun _ => 0)))] H := hP
  have hD : va_D A [(h9, .inr (8, [.int 0, .ref q7, .ref q15, .ref q23, .ref q31, .ref q39, .int 0, .ref q48, .int 0, .ref q57, .ref q65, .int 0, .int 0, .int 0, .int 0, .int 0, .int 0, .ref q73, .ref q80, .ref q103, .ref q112, .ref q120, .int 0, .int 0, .int 0, .int 0, .null, .null, .int 0, .int 0, .int 0, .null, .null, .null, .int 0, .null, .int 0, .null, .int 0])), (q7, .inl (cA, 7, .inl (fun _ => 0))), (q15, .inl (cA, 7, .inl (fun _ => 0))), (q23, .inl (cA, 7, .inl (fun _ => 0))), (q31, .inl (cA, 7, .inl (fun _ => 0))), (q39, .inl (cA, 7, .inl (fun _ => 0))), (q48, .inl (cA, 160, .inl (fun _ => 0))), (q57, .inl (cA, 1200, .inl (fun _ => 0))), (q65, .inl (cA, 24, .inl (fun _ => 0))), (q73, .inl (cA, 21, .inl (fun _ => 0))), (q80, .inl (cA, 4, .inl (qn_ro qn_L51 4))), (q103, .inl (cA, 4, .inl (fun _ => 0))), (q112, .inl (cA, 160, .inl (fun _ => 0))), (q120, .inl (cA, 47, .inl (qn_ro qn_L54 47))), (q404, .inl (cA, 96, .inl (fun _ => 0)))] := hD
  refine qn_seg55 hx hb hK (j := 14) rfl hP hD hS (fun H locs hP hD hS => ?_)
  have hP : va_P D vwCl [(h9, .inr (8, [.int 0, .ref q7, .ref q15, .ref q23, .ref q31, .ref q39, .int 0, .ref q48, .int 0, .ref q57, .ref q65, .int 0, .int 0, .int 0, .int 0, .int 0, .int 0, .ref q73, .ref q80, .ref q103, .ref q112, .ref q120, .int 0, .int 0, .int 0, .int 0, .null, .null, .int 0, .int 0, .int 0, .null, .null, .null, .int 0, .null, .int 0, .null, .int 0])), (q7, .inl (cA, 7, .inl (fun _ => 0))), (q15, .inl (cA, 7, .inl (fun _ => 0))), (q23, .inl (cA, 7, .inl (fun _ => 0))), (q31, .inl (cA, 7, .inl (fun _ => 0))), (q39, .inl (cA, 7, .inl (fun _ => 0))), (q48, .inl (cA, 160, .inl (fun _ => 0))), (q57, .inl (cA, 1200, .inl (fun _ => 0))), (q65, .inl (cA, 24, .inl (fun _ => 0))), (q73, .inl (cA, 21, .inl (fun _ => 0))), (q80, .inl (cA, 4, .inl (qn_ro qn_L51 4))), (q103, .inl (cA, 4, .inl (fun _ => 0))), (q112, .inl (cA, 160, .inl (fun _ => 0))), (q120, .inl (cA, 47, .inl (qn_ro qn_L54 47))), (q404, .inl (cA, 96, .inl (qn_ro qn_L55 96)))] H := hP
  have hD : va_D A [(h9, .inr (8, [.int 0, .ref q7, .ref q15, .ref q23, .ref q31, .ref q39, .int 0, .ref q48, .int 0, .ref q57, .ref q65, .int 0, .int 0, .int 0, .int 0, .int 0, .int 0, .ref q73, .ref q80, .ref q103, .ref q112, .ref q120, .int 0, .int 0, .int 0, .int 0, .null, .null, .int 0, .int 0, .int 0, .null, .null, .null, .int 0, .null, .int 0, .null, .int 0])), (q7, .inl (cA, 7, .inl (fun _ => 0))), (q15, .inl (cA, 7, .inl (fun _ => 0))), (q23, .inl (cA, 7, .inl (fun _ => 0))), (q31, .inl (cA, 7, .inl (fun _ => 0))), (q39, .inl (cA, 7, .inl (fun _ => 0))), (q48, .inl (cA, 160, .inl (fun _ => 0))), (q57, .inl (cA, 1200, .inl (fun _ => 0))), (q65, .inl (cA, 24, .inl (fun _ => 0))), (q73, .inl (cA, 21, .inl (fun _ => 0))), (q80, .inl (cA, 4, .inl (qn_ro qn_L51 4))), (q103, .inl (cA, 4, .inl (fun _ => 0))), (q112, .inl (cA, 160, .inl (fun _ => 0))), (q120, .inl (cA, 47, .inl (qn_ro qn_L54 47))), (q404, .inl (cA, 96, .inl (qn_ro qn_L55 96)))] := hD
  refine va_putF (D := D) (ci := 8) (v := .ref q404) (ty := .array .int) (C := RX9) (T := TX9) (N := 39) (Ts := qm_G) hx hb hG qm_cs8 tyX9 tyX9_ok nmX9 hown hK hP hD hS 0 rfl rfl 26 (by decide) (hG _ qn_m1004) (fun _ h9 => h9) rfl hin rfl (by decide +kernel) rfl rfl (Nat.le_of_ble_eq_true rfl) dX9_init_976 (fun H locs hP hD hS => ?_)
  have hP : va_P D vwCl [(h9, .inr (8, [.int 0, .ref q7, .ref q15, .ref q23, .ref q31, .ref q39, .int 0, .ref q48, .int 0, .ref q57, .ref q65, .int 0, .int 0, .int 0, .int 0, .int 0, .int 0, .ref q73, .ref q80, .ref q103, .ref q112, .ref q120, .int 0, .int 0, .int 0, .int 0, .ref q404, .null, .int 0, .int 0, .int 0, .null, .null, .null, .int 0, .null, .int 0, .null, .int 0])), (q7, .inl (cA, 7, .inl (fun _ => 0))), (q15, .inl (cA, 7, .inl (fun _ => 0))), (q23, .inl (cA, 7, .inl (fun _ => 0))), (q31, .inl (cA, 7, .inl (fun _ => 0))), (q39, .inl (cA, 7, .inl (fun _ => 0))), (q48, .inl (cA, 160, .inl (fun _ => 0))), (q57, .inl (cA, 1200, .inl (fun _ => 0))), (q65, .inl (cA, 24, .inl (fun _ => 0))), (q73, .inl (cA, 21, .inl (fun _ => 0))), (q80, .inl (cA, 4, .inl (qn_ro qn_L51 4))), (q103, .inl (cA, 4, .inl (fun _ => 0))), (q112, .inl (cA, 160, .inl (fun _ => 0))), (q120, .inl (cA, 47, .inl (qn_ro qn_L54 47))), (q404, .inl (cA, 96, .inl (qn_ro qn_L55 96)))] H := hP
  have hD : va_D A [(h9, .inr (8, [.int 0, .ref q7, .ref q15, .ref q23, .ref q31, .ref q39, .int 0, .ref q48, .int 0, .ref q57, .ref q65, .int 0, .int 0, .int 0, .int 0, .int 0, .int 0, .ref q73, .ref q80, .ref q103, .ref q112, .ref q120, .int 0, .int 0, .int 0, .int 0, .ref q404, .null, .int 0, .int 0, .int 0, .null, .null, .null, .int 0, .null, .int 0, .null, .int 0])), (q7, .inl (cA, 7, .inl (fun _ => 0))), (q15, .inl (cA, 7, .inl (fun _ => 0))), (q23, .inl (cA, 7, .inl (fun _ => 0))), (q31, .inl (cA, 7, .inl (fun _ => 0))), (q39, .inl (cA, 7, .inl (fun _ => 0))), (q48, .inl (cA, 160, .inl (fun _ => 0))), (q57, .inl (cA, 1200, .inl (fun _ => 0))), (q65, .inl (cA, 24, .inl (fun _ => 0))), (q73, .inl (cA, 21, .inl (fun _ => 0))), (q80, .inl (cA, 4, .inl (qn_ro qn_L51 4))), (q103, .inl (cA, 4, .inl (fun _ => 0))), (q112, .inl (cA, 160, .inl (fun _ => 0))), (q120, .inl (cA, 47, .inl (qn_ro qn_L54 47))), (q404, .inl (cA, 96, .inl (qn_ro qn_L55 96)))] := hD
  refine lv_aload_n hx hb dX9_init_979 rfl (lv_at hl 0 rfl) ?_
  refine lv_sipush hx hb dX9_init_980 rfl ?_
  refine qn_newa hx hb (hG _ qn_m152) hK hP hD hS hA (N := 200) (by decide) rfl (by decide) (Nat.le_of_ble_eq_true rfl) (Nat.le_of_ble_eq_true rfl) dX9_init_983 (fun q983 H hP hD hS => ?_)
  have hP : va_P D vwCl [(h9, .inr (8, [.int 0, .ref q7, .ref q15, .ref q23, .ref q31, .ref q39, .int 0, .ref q48, .int 0, .ref q57, .ref q65, .int 0, .int 0, .int 0, .int 0, .int 0, .int 0, .ref q73, .ref q80, .ref q103, .ref q112, .ref q120, .int 0, .int 0, .int 0, .int 0, .ref q404, .null, .int 0, .int 0, .int 0, .null, .null, .null, .int 0, .null, .int 0, .null, .int 0])), (q7, .inl (cA, 7, .inl (fun _ => 0))), (q15, .inl (cA, 7, .inl (fun _ => 0))), (q23, .inl (cA, 7, .inl (fun _ => 0))), (q31, .inl (cA, 7, .inl (fun _ => 0))), (q39, .inl (cA, 7, .inl (fun _ => 0))), (q48, .inl (cA, 160, .inl (fun _ => 0))), (q57, .inl (cA, 1200, .inl (fun _ => 0))), (q65, .inl (cA, 24, .inl (fun _ => 0))), (q73, .inl (cA, 21, .inl (fun _ => 0))), (q80, .inl (cA, 4, .inl (qn_ro qn_L51 4))), (q103, .inl (cA, 4, .inl (fun _ => 0))), (q112, .inl (cA, 160, .inl (fun _ => 0))), (q120, .inl (cA, 47, .inl (qn_ro qn_L54 47))), (q404, .inl (cA, 96, .inl (qn_ro qn_L55 96))), (q983, .inl (cA, 200, .inl (fun _ => 0)))] H := hP
  have hD : va_D A [(h9, .inr (8, [.int 0, .ref q7, .ref q15, .ref q23, .ref q31, .ref q39, .int 0, .ref q48, .int 0, .ref q57, .ref q65, .int 0, .int 0, .int 0, .int 0, .int 0, .int 0, .ref q73, .ref q80, .ref q103, .ref q112, .ref q120, .int 0, .int 0, .int 0, .int 0, .ref q404, .null, .int 0, .int 0, .int 0, .null, .null, .null, .int 0, .null, .int 0, .null, .int 0])), (q7, .inl (cA, 7, .inl (fun _ => 0))), (q15, .inl (cA, 7, .inl (fun _ => 0))), (q23, .inl (cA, 7, .inl (fun _ => 0))), (q31, .inl (cA, 7, .inl (fun _ => 0))), (q39, .inl (cA, 7, .inl (fun _ => 0))), (q48, .inl (cA, 160, .inl (fun _ => 0))), (q57, .inl (cA, 1200, .inl (fun _ => 0))), (q65, .inl (cA, 24, .inl (fun _ => 0))), (q73, .inl (cA, 21, .inl (fun _ => 0))), (q80, .inl (cA, 4, .inl (qn_ro qn_L51 4))), (q103, .inl (cA, 4, .inl (fun _ => 0))), (q112, .inl (cA, 160, .inl (fun _ => 0))), (q120, .inl (cA, 47, .inl (qn_ro qn_L54 47))), (q404, .inl (cA, 96, .inl (qn_ro qn_L55 96))), (q983, .inl (cA, 200, .inl (fun _ => 0)))] := hD
  refine va_putF (D := D) (ci := 8) (v := .ref q983) (ty := .array .int) (C := RX9) (T := TX9) (N := 39) (Ts := qm_G) hx hb hG qm_cs8 tyX9 tyX9_ok nmX9 hown hK hP hD hS 0 rfl rfl 27 (by decide) (hG _ qn_m1005) (fun _ h9 => h9) rfl hin rfl (by decide +kernel) rfl rfl (Nat.le_of_ble_eq_true rfl) dX9_init_985 (fun H locs hP hD hS => ?_)
  have hP : va_P D vwCl [(h9, .inr (8, [.int 0, .ref q7, .ref q15, .ref q23, .ref q31, .ref q39, .int 0, .ref q48, .int 0, .ref q57, .ref q65, .int 0, .int 0, .int 0, .int 0, .int 0, .int 0, .ref q73, .ref q80, .ref q103, .ref q112, .ref q120, .int 0, .int 0, .int 0, .int 0, .ref q404, .ref q983, .int 0, .int 0, .int 0, .null, .null, .null, .int 0, .null, .int 0, .null, .int 0])), (q7, .inl (cA, 7, .inl (fun _ => 0))), (q15, .inl (cA, 7, .inl (fun _ => 0))), (q23, .inl (cA, 7, .inl (fun _ => 0))), (q31, .inl (cA, 7, .inl (fun _ => 0))), (q39, .inl (cA, 7, .inl (fun _ => 0))), (q48, .inl (cA, 160, .inl (fun _ => 0))), (q57, .inl (cA, 1200, .inl (fun _ => 0))), (q65, .inl (cA, 24, .inl (fun _ => 0))), (q73, .inl (cA, 21, .inl (fun _ => 0))), (q80, .inl (cA, 4, .inl (qn_ro qn_L51 4))), (q103, .inl (cA, 4, .inl (fun _ => 0))), (q112, .inl (cA, 160, .inl (fun _ => 0))), (q120, .inl (cA, 47, .inl (qn_ro qn_L54 47))), (q404, .inl (cA, 96, .inl (qn_ro qn_L55 96))), (q983, .inl (cA, 200, .inl (fun _ => 0)))] H := hP
  have hD : va_D A [(h9, .inr (8, [.int 0, .ref q7, .ref q15, .ref q23, .ref q31, .ref q39, .int 0, .ref q48, .int 0, .ref q57, .ref q65, .int 0, .int 0, .int 0, .int 0, .int 0, .int 0, .ref q73, .ref q80, .ref q103, .ref q112, .ref q120, .int 0, .int 0, .int 0, .int 0, .ref q404, .ref q983, .int 0, .int 0, .int 0, .null, .null, .null, .int 0, .null, .int 0, .null, .int 0])), (q7, .inl (cA, 7, .inl (fun _ => 0))), (q15, .inl (cA, 7, .inl (fun _ => 0))), (q23, .inl (cA, 7, .inl (fun _ => 0))), (q31, .inl (cA, 7, .inl (fun _ => 0))), (q39, .inl (cA, 7, .inl (fun _ => 0))), (q48, .inl (cA, 160, .inl (fun _ => 0))), (q57, .inl (cA, 1200, .inl (fun _ => 0))), (q65, .inl (cA, 24, .inl (fun _ => 0))), (q73, .inl (cA, 21, .inl (fun _ => 0))), (q80, .inl (cA, 4, .inl (qn_ro qn_L51 4))), (q103, .inl (cA, 4, .inl (fun _ => 0))), (q112, .inl (cA, 160, .inl (fun _ => 0))), (q120, .inl (cA, 47, .inl (qn_ro qn_L54 47))), (q404, .inl (cA, 96, .inl (qn_ro qn_L55 96))), (q983, .inl (cA, 200, .inl (fun _ => 0)))] := hD
  refine lv_aload_n hx hb dX9_init_988 rfl (lv_at hl 0 rfl) ?_
  refine lv_sipush hx hb dX9_init_989 rfl ?_
  refine qn_newa hx hb (hG _ qn_m152) hK hP hD hS hA (N := 200) (by decide) rfl (by decide) (Nat.le_of_ble_eq_true rfl) (Nat.le_of_ble_eq_true rfl) dX9_init_992 (fun q992 H hP hD hS => ?_)
  have hP : va_P D vwCl [(h9, .inr (8, [.int 0, .ref q7, .ref q15, .ref q23, .ref q31, .ref q39, .int 0, .ref q48, .int 0, .ref q57, .ref q65, .int 0, .int 0, .int 0, .int 0, .int 0, .int 0, .ref q73, .ref q80, .ref q103, .ref q112, .ref q120, .int 0, .int 0, .int 0, .int 0, .ref q404, .ref q983, .int 0, .int 0, .int 0, .null, .null, .null, .int 0, .null, .int 0, .null, .int 0])), (q7, .inl (cA, 7, .inl (fun _ => 0))), (q15, .inl (cA, 7, .inl (fun _ => 0))), (q23, .inl (cA, 7, .inl (fun _ => 0))), (q31, .inl (cA, 7, .inl (fun _ => 0))), (q39, .inl (cA, 7, .inl (fun _ => 0))), (q48, .inl (cA, 160, .inl (fun _ => 0))), (q57, .inl (cA, 1200, .inl (fun _ => 0))), (q65, .inl (cA, 24, .inl (fun _ => 0))), (q73, .inl (cA, 21, .inl (fun _ => 0))), (q80, .inl (cA, 4, .inl (qn_ro qn_L51 4))), (q103, .inl (cA, 4, .inl (fun _ => 0))), (q112, .inl (cA, 160, .inl (fun _ => 0))), (q120, .inl (cA, 47, .inl (qn_ro qn_L54 47))), (q404, .inl (cA, 96, .inl (qn_ro qn_L55 96))), (q983, .inl (cA, 200, .inl (fun _ => 0))), (q992, .inl (cA, 200, .inl (fun _ => 0)))] H := hP
  have hD : va_D A [(h9, .inr (8, [.int 0, .ref q7, .ref q15, .ref q23, .ref q31, .ref q39, .int 0, .ref q48, .int 0, .ref q57, .ref q65, .int 0, .int 0, .int 0, .int 0, .int 0, .int 0, .ref q73, .ref q80, .ref q103, .ref q112, .ref q120, .int 0, .int 0, .int 0, .int 0, .ref q404, .ref q983, .int 0, .int 0, .int 0, .null, .null, .null, .int 0, .null, .int 0, .null, .int 0])), (q7, .inl (cA, 7, .inl (fun _ => 0))), (q15, .inl (cA, 7, .inl (fun _ => 0))), (q23, .inl (cA, 7, .inl (fun _ => 0))), (q31, .inl (cA, 7, .inl (fun _ => 0))), (q39, .inl (cA, 7, .inl (fun _ => 0))), (q48, .inl (cA, 160, .inl (fun _ => 0))), (q57, .inl (cA, 1200, .inl (fun _ => 0))), (q65, .inl (cA, 24, .inl (fun _ => 0))), (q73, .inl (cA, 21, .inl (fun _ => 0))), (q80, .inl (cA, 4, .inl (qn_ro qn_L51 4))), (q103, .inl (cA, 4, .inl (fun _ => 0))), (q112, .inl (cA, 160, .inl (fun _ => 0))), (q120, .inl (cA, 47, .inl (qn_ro qn_L54 47))), (q404, .inl (cA, 96, .inl (qn_ro qn_L55 96))), (q983, .inl (cA, 200, .inl (fun _ => 0))), (q992, .inl (cA, 200, .inl (fun _ => 0)))] := hD
  refine va_putF (D := D) (ci := 8) (v := .ref q992) (ty := .array .int) (C := RX9) (T := TX9) (N := 39) (Ts := qm_G) hx hb hG qm_cs8 tyX9 tyX9_ok nmX9 hown hK hP hD hS 0 rfl rfl 31 (by decide) (hG _ qn_m1009) (fun _ h9 => h9) rfl hin rfl (by decide +kernel) rfl rfl (Nat.le_of_ble_eq_true rfl) dX9_init_994 (fun H locs hP hD hS => ?_)
  have hP : va_P D vwCl [(h9, .inr (8, [.int 0, .ref q7, .ref q15, .ref q23, .ref q31, .ref q39, .int 0, .ref q48, .int 0, .ref q57, .ref q65, .int 0, .int 0, .int 0, .int 0, .int 0, .int 0, .ref q73, .ref q80, .ref q103, .ref q112, .ref q120, .int 0, .int 0, .int 0, .int 0, .ref q404, .ref q983, .int 0, .int 0, .int 0, .ref q992, .null, .null, .int 0, .null, .int 0, .null, .int 0])), (q7, .inl (cA, 7, .inl (fun _ => 0))), (q15, .inl (cA, 7, .inl (fun _ => 0))), (q23, .inl (cA, 7, .inl (fun _ => 0))), (q31, .inl (cA, 7, .inl (fun _ => 0))), (q39, .inl (cA, 7, .inl (fun _ => 0))), (q48, .inl (cA, 160, .inl (fun _ => 0))), (q57, .inl (cA, 1200, .inl (fun _ => 0))), (q65, .inl (cA, 24, .inl (fun _ => 0))), (q73, .inl (cA, 21, .inl (fun _ => 0))), (q80, .inl (cA, 4, .inl (qn_ro qn_L51 4))), (q103, .inl (cA, 4, .inl (fun _ => 0))), (q112, .inl (cA, 160, .inl (fun _ => 0))), (q120, .inl (cA, 47, .inl (qn_ro qn_L54 47))), (q404, .inl (cA, 96, .inl (qn_ro qn_L55 96))), (q983, .inl (cA, 200, .inl (fun _ => 0))), (q992, .inl (cA, 200, .inl (fun _ => 0)))] H := hP
  have hD : va_D A [(h9, .inr (8, [.int 0, .ref q7, .ref q15, .ref q23, .ref q31, .ref q39, .int 0, .ref q48, .int 0, .ref q57, .ref q65, .int 0, .int 0, .int 0, .int 0, .int 0, .int 0, .ref q73, .ref q80, .ref q103, .ref q112, .ref q120, .int 0, .int 0, .int 0, .int 0, .ref q404, .ref q983, .int 0, .int 0, .int 0, .ref q992, .null, .null, .int 0, .null, .int 0, .null, .int 0])), (q7, .inl (cA, 7, .inl (fun _ => 0))), (q15, .inl (cA, 7, .inl (fun _ => 0))), (q23, .inl (cA, 7, .inl (fun _ => 0))), (q31, .inl (cA, 7, .inl (fun _ => 0))), (q39, .inl (cA, 7, .inl (fun _ => 0))), (q48, .inl (cA, 160, .inl (fun _ => 0))), (q57, .inl (cA, 1200, .inl (fun _ => 0))), (q65, .inl (cA, 24, .inl (fun _ => 0))), (q73, .inl (cA, 21, .inl (fun _ => 0))), (q80, .inl (cA, 4, .inl (qn_ro qn_L51 4))), (q103, .inl (cA, 4, .inl (fun _ => 0))), (q112, .inl (cA, 160, .inl (fun _ => 0))), (q120, .inl (cA, 47, .inl (qn_ro qn_L54 47))), (q404, .inl (cA, 96, .inl (qn_ro qn_L55 96))), (q983, .inl (cA, 200, .inl (fun _ => 0))), (q992, .inl (cA, 200, .inl (fun _ => 0)))] := hD
  refine lv_aload_n hx hb dX9_init_997 rfl (lv_at hl 0 rfl) ?_
  refine lv_bipush hx hb dX9_init_998 rfl ?_
  refine qn_newa hx hb (hG _ qn_m152) hK hP hD hS hA (N := 6) (by decide) rfl (by decide) (Nat.le_of_ble_eq_true rfl) (Nat.le_of_ble_eq_true rfl) dX9_init_1000 (fun q1000 H hP hD hS => ?_)
  have hP : va_P D vwCl [(h9, .inr (8, [.int 0, .ref q7, .ref q15, .ref q23, .ref q31, .ref q39, .int 0, .ref q48, .int 0, .ref q57, .ref q65, .int 0, .int 0, .int 0, .int 0, .int 0, .int 0, .ref q73, .ref q80, .ref q103, .ref q112, .ref q120, .int 0, .int 0, .int 0, .int 0, .ref q404, .ref q983, .int 0, .int 0, .int 0, .ref q992, .null, .null, .int 0, .null, .int 0, .null, .int 0])), (q7, .inl (cA, 7, .inl (fun _ => 0))), (q15, .inl (cA, 7, .inl (fun _ => 0))), (q23, .inl (cA, 7, .inl (fun _ => 0))), (q31, .inl (cA, 7, .inl (fun _ => 0))), (q39, .inl (cA, 7, .inl (fun _ => 0))), (q48, .inl (cA, 160, .inl (fun _ => 0))), (q57, .inl (cA, 1200, .inl (fun _ => 0))), (q65, .inl (cA, 24, .inl (fun _ => 0))), (q73, .inl (cA, 21, .inl (fun _ => 0))), (q80, .inl (cA, 4, .inl (qn_ro qn_L51 4))), (q103, .inl (cA, 4, .inl (fun _ => 0))), (q112, .inl (cA, 160, .inl (fun _ => 0))), (q120, .inl (cA, 47, .inl (qn_ro qn_L54 47))), (q404, .inl (cA, 96, .inl (qn_ro qn_L55 96))), (q983, .inl (cA, 200, .inl (fun _ => 0))), (q992, .inl (cA, 200, .inl (fun _ => 0))), (q1000, .inl (cA, 6, .inl (fun _ => 0)))] H := hP
  have hD : va_D A [(h9, .inr (8, [.int 0, .ref q7, .ref q15, .ref q23, .ref q31, .ref q39, .int 0, .ref q48, .int 0, .ref q57, .ref q65, .int 0, .int 0, .int 0, .int 0, .int 0, .int 0, .ref q73, .ref q80, .ref q103, .ref q112, .ref q120, .int 0, .int 0, .int 0, .int 0, .ref q404, .ref q983, .int 0, .int 0, .int 0, .ref q992, .null, .null, .int 0, .null, .int 0, .null, .int 0])), (q7, .inl (cA, 7, .inl (fun _ => 0))), (q15, .inl (cA, 7, .inl (fun _ => 0))), (q23, .inl (cA, 7, .inl (fun _ => 0))), (q31, .inl (cA, 7, .inl (fun _ => 0))), (q39, .inl (cA, 7, .inl (fun _ => 0))), (q48, .inl (cA, 160, .inl (fun _ => 0))), (q57, .inl (cA, 1200, .inl (fun _ => 0))), (q65, .inl (cA, 24, .inl (fun _ => 0))), (q73, .inl (cA, 21, .inl (fun _ => 0))), (q80, .inl (cA, 4, .inl (qn_ro qn_L51 4))), (q103, .inl (cA, 4, .inl (fun _ => 0))), (q112, .inl (cA, 160, .inl (fun _ => 0))), (q120, .inl (cA, 47, .inl (qn_ro qn_L54 47))), (q404, .inl (cA, 96, .inl (qn_ro qn_L55 96))), (q983, .inl (cA, 200, .inl (fun _ => 0))), (q992, .inl (cA, 200, .inl (fun _ => 0))), (q1000, .inl (cA, 6, .inl (fun _ => 0)))] := hD
  refine va_putF (D := D) (ci := 8) (v := .ref q1000) (ty := .array .int) (C := RX9) (T := TX9) (N := 39) (Ts := qm_G) hx hb hG qm_cs8 tyX9 tyX9_ok nmX9 hown hK hP hD hS 0 rfl rfl 32 (by decide) (hG _ qn_m1010) (fun _ h9 => h9) rfl hin rfl (by decide +kernel) rfl rfl (Nat.le_of_ble_eq_true rfl) dX9_init_1002 (fun H locs hP hD hS => ?_)
  have hP : va_P D vwCl [(h9, .inr (8, [.int 0, .ref q7, .ref q15, .ref q23, .ref q31, .ref q39, .int 0, .ref q48, .int 0, .ref q57, .ref q65, .int 0, .int 0, .int 0, .int 0, .int 0, .int 0, .ref q73, .ref q80, .ref q103, .ref q112, .ref q120, .int 0, .int 0, .int 0, .int 0, .ref q404, .ref q983, .int 0, .int 0, .int 0, .ref q992, .ref q1000, .null, .int 0, .null, .int 0, .null, .int 0])), (q7, .inl (cA, 7, .inl (fun _ => 0))), (q15, .inl (cA, 7, .inl (fun _ => 0))), (q23, .inl (cA, 7, .inl (fun _ => 0))), (q31, .inl (cA, 7, .inl (fun _ => 0))), (q39, .inl (cA, 7, .inl (fun _ => 0))), (q48, .inl (cA, 160, .inl (fun _ => 0))), (q57, .inl (cA, 1200, .inl (fun _ => 0))), (q65, .inl (cA, 24, .inl (fun _ => 0))), (q73, .inl (cA, 21, .inl (fun _ => 0))), (q80, .inl (cA, 4, .inl (qn_ro qn_L51 4))), (q103, .inl (cA, 4, .inl (fun _ => 0))), (q112, .inl (cA, 160, .inl (fun _ => 0))), (q120, .inl (cA, 47, .inl (qn_ro qn_L54 47))), (q404, .inl (cA, 96, .inl (qn_ro qn_L55 96))), (q983, .inl (cA, 200, .inl (fun _ => 0))), (q992, .inl (cA, 200, .inl (fun _ => 0))), (q1000, .inl (cA, 6, .inl (fun _ => 0)))] H := hP
  have hD : va_D A [(h9, .inr (8, [.int 0, .ref q7, .ref q15, .ref q23, .ref q31, .ref q39, .int 0, .ref q48, .int 0, .ref q57, .ref q65, .int 0, .int 0, .int 0, .int 0, .int 0, .int 0, .ref q73, .ref q80, .ref q103, .ref q112, .ref q120, .int 0, .int 0, .int 0, .int 0, .ref q404, .ref q983, .int 0, .int 0, .int 0, .ref q992, .ref q1000, .null, .int 0, .null, .int 0, .null, .int 0])), (q7, .inl (cA, 7, .inl (fun _ => 0))), (q15, .inl (cA, 7, .inl (fun _ => 0))), (q23, .inl (cA, 7, .inl (fun _ => 0))), (q31, .inl (cA, 7, .inl (fun _ => 0))), (q39, .inl (cA, 7, .inl (fun _ => 0))), (q48, .inl (cA, 160, .inl (fun _ => 0))), (q57, .inl (cA, 1200, .inl (fun _ => 0))), (q65, .inl (cA, 24, .inl (fun _ => 0))), (q73, .inl (cA, 21, .inl (fun _ => 0))), (q80, .inl (cA, 4, .inl (qn_ro qn_L51 4))), (q103, .inl (cA, 4, .inl (fun _ => 0))), (q112, .inl (cA, 160, .inl (fun _ => 0))), (q120, .inl (cA, 47, .inl (qn_ro qn_L54 47))), (q404, .inl (cA, 96, .inl (qn_ro qn_L55 96))), (q983, .inl (cA, 200, .inl (fun _ => 0))), (q992, .inl (cA, 200, .inl (fun _ => 0))), (q1000, .inl (cA, 6, .inl (fun _ => 0)))] := hD
  refine lv_aload_n hx hb dX9_init_1005 rfl (lv_at hl 0 rfl) ?_
  refine lv_bipush hx hb dX9_init_1006 rfl ?_
  refine qn_newa hx hb (hG _ qn_m152) hK hP hD hS hA (N := 21) (by decide) rfl (by decide) (Nat.le_of_ble_eq_true rfl) (Nat.le_of_ble_eq_true rfl) dX9_init_1008 (fun q1008 H hP hD hS => ?_)
  have hP : va_P D vwCl [(h9, .inr (8, [.int 0, .ref q7, .ref q15, .ref q23, .ref q31, .ref q39, .int 0, .ref q48, .int 0, .ref q57, .ref q65, .int 0, .int 0, .int 0, .int 0, .int 0, .int 0, .ref q73, .ref q80, .ref q103, .ref q112, .ref q120, .int 0, .int 0, .int 0, .int 0, .ref q404, .ref q983, .int 0, .int 0, .int 0, .ref q992, .ref q1000, .null, .int 0, .null, .int 0, .null, .int 0])), (q7, .inl (cA, 7, .inl (fun _ => 0))), (q15, .inl (cA, 7, .inl (fun _ => 0))), (q23, .inl (cA, 7, .inl (fun _ => 0))), (q31, .inl (cA, 7, .inl (fun _ => 0))), (q39, .inl (cA, 7, .inl (fun _ => 0))), (q48, .inl (cA, 160, .inl (fun _ => 0))), (q57, .inl (cA, 1200, .inl (fun _ => 0))), (q65, .inl (cA, 24, .inl (fun _ => 0))), (q73, .inl (cA, 21, .inl (fun _ => 0))), (q80, .inl (cA, 4, .inl (qn_ro qn_L51 4))), (q103, .inl (cA, 4, .inl (fun _ => 0))), (q112, .inl (cA, 160, .inl (fun _ => 0))), (q120, .inl (cA, 47, .inl (qn_ro qn_L54 47))), (q404, .inl (cA, 96, .inl (qn_ro qn_L55 96))), (q983, .inl (cA, 200, .inl (fun _ => 0))), (q992, .inl (cA, 200, .inl (fun _ => 0))), (q1000, .inl (cA, 6, .inl (fun _ => 0))), (q1008, .inl (cA, 21, .inl (fun _ => 0)))] H := hP
  have hD : va_D A [(h9, .inr (8, [.int 0, .ref q7, .ref q15, .ref q23, .ref q31, .ref q39, .int 0, .ref q48, .int 0, .ref q57, .ref q65, .int 0, .int 0, .int 0, .int 0, .int 0, .int 0, .ref q73, .ref q80, .ref q103, .ref q112, .ref q120, .int 0, .int 0, .int 0, .int 0, .ref q404, .ref q983, .int 0, .int 0, .int 0, .ref q992, .ref q1000, .null, .int 0, .null, .int 0, .null, .int 0])), (q7, .inl (cA, 7, .inl (fun _ => 0))), (q15, .inl (cA, 7, .inl (fun _ => 0))), (q23, .inl (cA, 7, .inl (fun _ => 0))), (q31, .inl (cA, 7, .inl (fun _ => 0))), (q39, .inl (cA, 7, .inl (fun _ => 0))), (q48, .inl (cA, 160, .inl (fun _ => 0))), (q57, .inl (cA, 1200, .inl (fun _ => 0))), (q65, .inl (cA, 24, .inl (fun _ => 0))), (q73, .inl (cA, 21, .inl (fun _ => 0))), (q80, .inl (cA, 4, .inl (qn_ro qn_L51 4))), (q103, .inl (cA, 4, .inl (fun _ => 0))), (q112, .inl (cA, 160, .inl (fun _ => 0))), (q120, .inl (cA, 47, .inl (qn_ro qn_L54 47))), (q404, .inl (cA, 96, .inl (qn_ro qn_L55 96))), (q983, .inl (cA, 200, .inl (fun _ => 0))), (q992, .inl (cA, 200, .inl (fun _ => 0))), (q1000, .inl (cA, 6, .inl (fun _ => 0))), (q1008, .inl (cA, 21, .inl (fun _ => 0)))] := hD
  refine va_putF (D := D) (ci := 8) (v := .ref q1008) (ty := .array .int) (C := RX9) (T := TX9) (N := 39) (Ts := qm_G) hx hb hG qm_cs8 tyX9 tyX9_ok nmX9 hown hK hP hD hS 0 rfl rfl 33 (by decide) (hG _ qn_m1011) (fun _ h9 => h9) rfl hin rfl (by decide +kernel) rfl rfl (Nat.le_of_ble_eq_true rfl) dX9_init_1010 (fun H locs hP hD hS => ?_)
  have hP : va_P D vwCl [(h9, .inr (8, [.int 0, .ref q7, .ref q15, .ref q23, .ref q31, .ref q39, .int 0, .ref q48, .int 0, .ref q57, .ref q65, .int 0, .int 0, .int 0, .int 0, .int 0, .int 0, .ref q73, .ref q80, .ref q103, .ref q112, .ref q120, .int 0, .int 0, .int 0, .int 0, .ref q404, .ref q983, .int 0, .int 0, .int 0, .ref q992, .ref q1000, .ref q1008, .int 0, .null, .int 0, .null, .int 0])), (q7, .inl (cA, 7, .inl (fun _ => 0))), (q15, .inl (cA, 7, .inl (fun _ => 0))), (q23, .inl (cA, 7, .inl (fun _ => 0))), (q31, .inl (cA, 7, .inl (fun _ => 0))), (q39, .inl (cA, 7, .inl (fun _ => 0))), (q48, .inl (cA, 160, .inl (fun _ => 0))), (q57, .inl (cA, 1200, .inl (fun _ => 0))), (q65, .inl (cA, 24, .inl (fun _ => 0))), (q73, .inl (cA, 21, .inl (fun _ => 0))), (q80, .inl (cA, 4, .inl (qn_ro qn_L51 4))), (q103, .inl (cA, 4, .inl (fun _ => 0))), (q112, .inl (cA, 160, .inl (fun _ => 0))), (q120, .inl (cA, 47, .inl (qn_ro qn_L54 47))), (q404, .inl (cA, 96, .inl (qn_ro qn_L55 96))), (q983, .inl (cA, 200, .inl (fun _ => 0))), (q992, .inl (cA, 200, .inl (fun _ => 0))), (q1000, .inl (cA, 6, .inl (fun _ => 0))), (q1008, .inl (cA, 21, .inl (fun _ => 0)))] H := hP
  have hD : va_D A [(h9, .inr (8, [.int 0, .ref q7, .ref q15, .ref q23, .ref q31, .ref q39, .int 0, .ref q48, .int 0, .ref q57, .ref q65, .int 0, .int 0, .int 0, .int 0, .int 0, .int 0, .ref q73, .ref q80, .ref q103, .ref q112, .ref q120, .int 0, .int 0, .int 0, .int 0, .ref q404, .ref q983, .int 0, .int 0, .int 0, .ref q992, .ref q1000, .ref q1008, .int 0, .null, .int 0, .null, .int 0])), (q7, .inl (cA, 7, .inl (fun _ => 0))), (q15, .inl (cA, 7, .inl (fun _ => 0))), (q23, .inl (cA, 7, .inl (fun _ => 0))), (q31, .inl (cA, 7, .inl (fun _ => 0))), (q39, .inl (cA, 7, .inl (fun _ => 0))), (q48, .inl (cA, 160, .inl (fun _ => 0))), (q57, .inl (cA, 1200, .inl (fun _ => 0))), (q65, .inl (cA, 24, .inl (fun _ => 0))), (q73, .inl (cA, 21, .inl (fun _ => 0))), (q80, .inl (cA, 4, .inl (qn_ro qn_L51 4))), (q103, .inl (cA, 4, .inl (fun _ => 0))), (q112, .inl (cA, 160, .inl (fun _ => 0))), (q120, .inl (cA, 47, .inl (qn_ro qn_L54 47))), (q404, .inl (cA, 96, .inl (qn_ro qn_L55 96))), (q983, .inl (cA, 200, .inl (fun _ => 0))), (q992, .inl (cA, 200, .inl (fun _ => 0))), (q1000, .inl (cA, 6, .inl (fun _ => 0))), (q1008, .inl (cA, 21, .inl (fun _ => 0)))] := hD
  refine lv_aload_n hx hb dX9_init_1013 rfl (lv_at hl 0 rfl) ?_
  refine lv_bipush hx hb dX9_init_1014 rfl ?_
  refine qn_newa hx hb (hG _ qn_m152) hK hP hD hS hA (N := 7) (by decide) rfl (by decide) (Nat.le_of_ble_eq_true rfl) (Nat.le_of_ble_eq_true rfl) dX9_init_1016 (fun q1016 H hP hD hS => ?_)
  have hP : va_P D vwCl [(h9, .inr (8, [.int 0, .ref q7, .ref q15, .ref q23, .ref q31, .ref q39, .int 0, .ref q48, .int 0, .ref q57, .ref q65, .int 0, .int 0, .int 0, .int 0, .int 0, .int 0, .ref q73, .ref q80, .ref q103, .ref q112, .ref q120, .int 0, .int 0, .int 0, .int 0, .ref q404, .ref q983, .int 0, .int 0, .int 0, .ref q992, .ref q1000, .ref q1008, .int 0, .null, .int 0, .null, .int 0])), (q7, .inl (cA, 7, .inl (fun _ => 0))), (q15, .inl (cA, 7, .inl (fun _ => 0))), (q23, .inl (cA, 7, .inl (fun _ => 0))), (q31, .inl (cA, 7, .inl (fun _ => 0))), (q39, .inl (cA, 7, .inl (fun _ => 0))), (q48, .inl (cA, 160, .inl (fun _ => 0))), (q57, .inl (cA, 1200, .inl (fun _ => 0))), (q65, .inl (cA, 24, .inl (fun _ => 0))), (q73, .inl (cA, 21, .inl (fun _ => 0))), (q80, .inl (cA, 4, .inl (qn_ro qn_L51 4))), (q103, .inl (cA, 4, .inl (fun _ => 0))), (q112, .inl (cA, 160, .inl (fun _ => 0))), (q120, .inl (cA, 47, .inl (qn_ro qn_L54 47))), (q404, .inl (cA, 96, .inl (qn_ro qn_L55 96))), (q983, .inl (cA, 200, .inl (fun _ => 0))), (q992, .inl (cA, 200, .inl (fun _ => 0))), (q1000, .inl (cA, 6, .inl (fun _ => 0))), (q1008, .inl (cA, 21, .inl (fun _ => 0))), (q1016, .inl (cA, 7, .inl (fun _ => 0)))] H := hP
  have hD : va_D A [(h9, .inr (8, [.int 0, .ref q7, .ref q15, .ref q23, .ref q31, .ref q39, .int 0, .ref q48, .int 0, .ref q57, .ref q65, .int 0, .int 0, .int 0, .int 0, .int 0, .int 0, .ref q73, .ref q80, .ref q103, .ref q112, .ref q120, .int 0, .int 0, .int 0, .int 0, .ref q404, .ref q983, .int 0, .int 0, .int 0, .ref q992, .ref q1000, .ref q1008, .int 0, .null, .int 0, .null, .int 0])), (q7, .inl (cA, 7, .inl (fun _ => 0))), (q15, .inl (cA, 7, .inl (fun _ => 0))), (q23, .inl (cA, 7, .inl (fun _ => 0))), (q31, .inl (cA, 7, .inl (fun _ => 0))), (q39, .inl (cA, 7, .inl (fun _ => 0))), (q48, .inl (cA, 160, .inl (fun _ => 0))), (q57, .inl (cA, 1200, .inl (fun _ => 0))), (q65, .inl (cA, 24, .inl (fun _ => 0))), (q73, .inl (cA, 21, .inl (fun _ => 0))), (q80, .inl (cA, 4, .inl (qn_ro qn_L51 4))), (q103, .inl (cA, 4, .inl (fun _ => 0))), (q112, .inl (cA, 160, .inl (fun _ => 0))), (q120, .inl (cA, 47, .inl (qn_ro qn_L54 47))), (q404, .inl (cA, 96, .inl (qn_ro qn_L55 96))), (q983, .inl (cA, 200, .inl (fun _ => 0))), (q992, .inl (cA, 200, .inl (fun _ => 0))), (q1000, .inl (cA, 6, .inl (fun _ => 0))), (q1008, .inl (cA, 21, .inl (fun _ => 0))), (q1016, .inl (cA, 7, .inl (fun _ => 0)))] := hD
  refine va_putF (D := D) (ci := 8) (v := .ref q1016) (ty := .array .int) (C := RX9) (T := TX9) (N := 39) (Ts := qm_G) hx hb hG qm_cs8 tyX9 tyX9_ok nmX9 hown hK hP hD hS 0 rfl rfl 35 (by decide) (hG _ qn_m1013) (fun _ h9 => h9) rfl hin rfl (by decide +kernel) rfl rfl (Nat.le_of_ble_eq_true rfl) dX9_init_1018 (fun H locs hP hD hS => ?_)
  have hP : va_P D vwCl [(h9, .inr (8, [.int 0, .ref q7, .ref q15, .ref q23, .ref q31, .ref q39, .int 0, .ref q48, .int 0, .ref q57, .ref q65, .int 0, .int 0, .int 0, .int 0, .int 0, .int 0, .ref q73, .ref q80, .ref q103, .ref q112, .ref q120, .int 0, .int 0, .int 0, .int 0, .ref q404, .ref q983, .int 0, .int 0, .int 0, .ref q992, .ref q1000, .ref q1008, .int 0, .ref q1016, .int 0, .null, .int 0])), (q7, .inl (cA, 7, .inl (fun _ => 0))), (q15, .inl (cA, 7, .inl (fun _ => 0))), (q23, .inl (cA, 7, .inl (fun _ => 0))), (q31, .inl (cA, 7, .inl (fun _ => 0))), (q39, .inl (cA, 7, .inl (fun _ => 0))), (q48, .inl (cA, 160, .inl (fun _ => 0))), (q57, .inl (cA, 1200, .inl (fun _ => 0))), (q65, .inl (cA, 24, .inl (fun _ => 0))), (q73, .inl (cA, 21, .inl (fun _ => 0))), (q80, .inl (cA, 4, .inl (qn_ro qn_L51 4))), (q103, .inl (cA, 4, .inl (fun _ => 0))), (q112, .inl (cA, 160, .inl (fun _ => 0))), (q120, .inl (cA, 47, .inl (qn_ro qn_L54 47))), (q404, .inl (cA, 96, .inl (qn_ro qn_L55 96))), (q983, .inl (cA, 200, .inl (fun _ => 0))), (q992, .inl (cA, 200, .inl (fun _ => 0))), (q1000, .inl (cA, 6, .inl (fun _ => 0))), (q1008, .inl (cA, 21, .inl (fun _ => 0))), (q1016, .inl (cA, 7, .inl (fun _ => 0)))] H := hP
  have hD : va_D A [(h9, .inr (8, [.int 0, .ref q7, .ref q15, .ref q23, .ref q31, .ref q39, .int 0, .ref q48, .int 0, .ref q57, .ref q65, .int 0, .int 0, .int 0, .int 0, .int 0, .int 0, .ref q73, .ref q80, .ref q103, .ref q112, .ref q120, .int 0, .int 0, .int 0, .int 0, .ref q404, .ref q983, .int 0, .int 0, .int 0, .ref q992, .ref q1000, .ref q1008, .int 0, .ref q1016, .int 0, .null, .int 0])), (q7, .inl (cA, 7, .inl (fun _ => 0))), (q15, .inl (cA, 7, .inl (fun _ => 0))), (q23, .inl (cA, 7, .inl (fun _ => 0))), (q31, .inl (cA, 7, .inl (fun _ => 0))), (q39, .inl (cA, 7, .inl (fun _ => 0))), (q48, .inl (cA, 160, .inl (fun _ => 0))), (q57, .inl (cA, 1200, .inl (fun _ => 0))), (q65, .inl (cA, 24, .inl (fun _ => 0))), (q73, .inl (cA, 21, .inl (fun _ => 0))), (q80, .inl (cA, 4, .inl (qn_ro qn_L51 4))), (q103, .inl (cA, 4, .inl (fun _ => 0))), (q112, .inl (cA, 160, .inl (fun _ => 0))), (q120, .inl (cA, 47, .inl (qn_ro qn_L54 47))), (q404, .inl (cA, 96, .inl (qn_ro qn_L55 96))), (q983, .inl (cA, 200, .inl (fun _ => 0))), (q992, .inl (cA, 200, .inl (fun _ => 0))), (q1000, .inl (cA, 6, .inl (fun _ => 0))), (q1008, .inl (cA, 21, .inl (fun _ => 0))), (q1016, .inl (cA, 7, .inl (fun _ => 0)))] := hD
  refine lv_aload_n hx hb dX9_init_1021 rfl (lv_at hl 0 rfl) ?_
  refine lv_bipush hx hb dX9_init_1022 rfl ?_
  refine qn_newa hx hb (hG _ qn_m152) hK hP hD hS hA (N := 7) (by decide) rfl (by decide) (Nat.le_of_ble_eq_true rfl) (Nat.le_of_ble_eq_true rfl) dX9_init_1024 (fun q1024 H hP hD hS => ?_)
  have hP : va_P D vwCl [(h9, .inr (8, [.int 0, .ref q7, .ref q15, .ref q23, .ref q31, .ref q39, .int 0, .ref q48, .int 0, .ref q57, .ref q65, .int 0, .int 0, .int 0, .int 0, .int 0, .int 0, .ref q73, .ref q80, .ref q103, .ref q112, .ref q120, .int 0, .int 0, .int 0, .int 0, .ref q404, .ref q983, .int 0, .int 0, .int 0, .ref q992, .ref q1000, .ref q1008, .int 0, .ref q1016, .int 0, .null, .int 0])), (q7, .inl (cA, 7, .inl (fun _ => 0))), (q15, .inl (cA, 7, .inl (fun _ => 0))), (q23, .inl (cA, 7, .inl (fun _ => 0))), (q31, .inl (cA, 7, .inl (fun _ => 0))), (q39, .inl (cA, 7, .inl (fun _ => 0))), (q48, .inl (cA, 160, .inl (fun _ => 0))), (q57, .inl (cA, 1200, .inl (fun _ => 0))), (q65, .inl (cA, 24, .inl (fun _ => 0))), (q73, .inl (cA, 21, .inl (fun _ => 0))), (q80, .inl (cA, 4, .inl (qn_ro qn_L51 4))), (q103, .inl (cA, 4, .inl (fun _ => 0))), (q112, .inl (cA, 160, .inl (fun _ => 0))), (q120, .inl (cA, 47, .inl (qn_ro qn_L54 47))), (q404, .inl (cA, 96, .inl (qn_ro qn_L55 96))), (q983, .inl (cA, 200, .inl (fun _ => 0))), (q992, .inl (cA, 200, .inl (fun _ => 0))), (q1000, .inl (cA, 6, .inl (fun _ => 0))), (q1008, .inl (cA, 21, .inl (fun _ => 0))), (q1016, .inl (cA, 7, .inl (fun _ => 0))), (q1024, .inl (cA, 7, .inl (fun _ => 0)))] H := hP
  have hD : va_D A [(h9, .inr (8, [.int 0, .ref q7, .ref q15, .ref q23, .ref q31, .ref q39, .int 0, .ref q48, .int 0, .ref q57, .ref q65, .int 0, .int 0, .int 0, .int 0, .int 0, .int 0, .ref q73, .ref q80, .ref q103, .ref q112, .ref q120, .int 0, .int 0, .int 0, .int 0, .ref q404, .ref q983, .int 0, .int 0, .int 0, .ref q992, .ref q1000, .ref q1008, .int 0, .ref q1016, .int 0, .null, .int 0])), (q7, .inl (cA, 7, .inl (fun _ => 0))), (q15, .inl (cA, 7, .inl (fun _ => 0))), (q23, .inl (cA, 7, .inl (fun _ => 0))), (q31, .inl (cA, 7, .inl (fun _ => 0))), (q39, .inl (cA, 7, .inl (fun _ => 0))), (q48, .inl (cA, 160, .inl (fun _ => 0))), (q57, .inl (cA, 1200, .inl (fun _ => 0))), (q65, .inl (cA, 24, .inl (fun _ => 0))), (q73, .inl (cA, 21, .inl (fun _ => 0))), (q80, .inl (cA, 4, .inl (qn_ro qn_L51 4))), (q103, .inl (cA, 4, .inl (fun _ => 0))), (q112, .inl (cA, 160, .inl (fun _ => 0))), (q120, .inl (cA, 47, .inl (qn_ro qn_L54 47))), (q404, .inl (cA, 96, .inl (qn_ro qn_L55 96))), (q983, .inl (cA, 200, .inl (fun _ => 0))), (q992, .inl (cA, 200, .inl (fun _ => 0))), (q1000, .inl (cA, 6, .inl (fun _ => 0))), (q1008, .inl (cA, 21, .inl (fun _ => 0))), (q1016, .inl (cA, 7, .inl (fun _ => 0))), (q1024, .inl (cA, 7, .inl (fun _ => 0)))] := hD
  refine va_putF (D := D) (ci := 8) (v := .ref q1024) (ty := .array .int) (C := RX9) (T := TX9) (N := 39) (Ts := qm_G) hx hb hG qm_cs8 tyX9 tyX9_ok nmX9 hown hK hP hD hS 0 rfl rfl 37 (by decide) (hG _ qn_m1015) (fun _ h9 => h9) rfl hin rfl (by decide +kernel) rfl rfl (Nat.le_of_ble_eq_true rfl) dX9_init_1026 (fun H locs hP hD hS => ?_)
  have hP : va_P D vwCl [(h9, .inr (8, [.int 0, .ref q7, .ref q15, .ref q23, .ref q31, .ref q39, .int 0, .ref q48, .int 0, .ref q57, .ref q65, .int 0, .int 0, .int 0, .int 0, .int 0, .int 0, .ref q73, .ref q80, .ref q103, .ref q112, .ref q120, .int 0, .int 0, .int 0, .int 0, .ref q404, .ref q983, .int 0, .int 0, .int 0, .ref q992, .ref q1000, .ref q1008, .int 0, .ref q1016, .int 0, .ref q1024, .int 0])), (q7, .inl (cA, 7, .inl (fun _ => 0))), (q15, .inl (cA, 7, .inl (fun _ => 0))), (q23, .inl (cA, 7, .inl (fun _ => 0))), (q31, .inl (cA, 7, .inl (fun _ => 0))), (q39, .inl (cA, 7, .inl (fun _ => 0))), (q48, .inl (cA, 160, .inl (fun _ => 0))), (q57, .inl (cA, 1200, .inl (fun _ => 0))), (q65, .inl (cA, 24, .inl (fun _ => 0))), (q73, .inl (cA, 21, .inl (fun _ => 0))), (q80, .inl (cA, 4, .inl (qn_ro qn_L51 4))), (q103, .inl (cA, 4, .inl (fun _ => 0))), (q112, .inl (cA, 160, .inl (fun _ => 0))), (q120, .inl (cA, 47, .inl (qn_ro qn_L54 47))), (q404, .inl (cA, 96, .inl (qn_ro qn_L55 96))), (q983, .inl (cA, 200, .inl (fun _ => 0))), (q992, .inl (cA, 200, .inl (fun _ => 0))), (q1000, .inl (cA, 6, .inl (fun _ => 0))), (q1008, .inl (cA, 21, .inl (fun _ => 0))), (q1016, .inl (cA, 7, .inl (fun _ => 0))), (q1024, .inl (cA, 7, .inl (fun _ => 0)))] H := hP
  have hD : va_D A [(h9, .inr (8, [.int 0, .ref q7, .ref q15, .ref q23, .ref q31, .ref q39, .int 0, .ref q48, .int 0, .ref q57, .ref q65, .int 0, .int 0, .int 0, .int 0, .int 0, .int 0, .ref q73, .ref q80, .ref q103, .ref q112, .ref q120, .int 0, .int 0, .int 0, .int 0, .ref q404, .ref q983, .int 0, .int 0, .int 0, .ref q992, .ref q1000, .ref q1008, .int 0, .ref q1016, .int 0, .ref q1024, .int 0])), (q7, .inl (cA, 7, .inl (fun _ => 0))), (q15, .inl (cA, 7, .inl (fun _ => 0))), (q23, .inl (cA, 7, .inl (fun _ => 0))), (q31, .inl (cA, 7, .inl (fun _ => 0))), (q39, .inl (cA, 7, .inl (fun _ => 0))), (q48, .inl (cA, 160, .inl (fun _ => 0))), (q57, .inl (cA, 1200, .inl (fun _ => 0))), (q65, .inl (cA, 24, .inl (fun _ => 0))), (q73, .inl (cA, 21, .inl (fun _ => 0))), (q80, .inl (cA, 4, .inl (qn_ro qn_L51 4))), (q103, .inl (cA, 4, .inl (fun _ => 0))), (q112, .inl (cA, 160, .inl (fun _ => 0))), (q120, .inl (cA, 47, .inl (qn_ro qn_L54 47))), (q404, .inl (cA, 96, .inl (qn_ro qn_L55 96))), (q983, .inl (cA, 200, .inl (fun _ => 0))), (q992, .inl (cA, 200, .inl (fun _ => 0))), (q1000, .inl (cA, 6, .inl (fun _ => 0))), (q1008, .inl (cA, 21, .inl (fun _ => 0))), (q1016, .inl (cA, 7, .inl (fun _ => 0))), (q1024, .inl (cA, 7, .inl (fun _ => 0)))] := hD
  obtain ⟨α', hα'⟩ : ∃ f9 : Nat → Nat, f9 = qn_aM α [h9, q7, q15, q23, q31, q39, q48, q57, q65, q73, q80, q103, q112, q120, q404, q983, q992, q1000, q1008, q1016, q1024] := ⟨_, rfl⟩
  have eC : ∀ k, k < 55 → α' k = α k := fun k hk => by rw [hα']; exact if_pos hk
  have eE : ∀ i, α' (1000 + i) = α (1000 + i) := fun i => by rw [hα']; show (if 1000 + i < 55 then _ else if 1000 + i < 76 then _ else _) = _; rw [if_neg (by omega), if_neg (by omega)]
  have hPC2 : va_P D vwCl (qm_W α cA cR qn_layC σ) H := hPC.kept (fun k x hk => hS.2.1 x.1 (hPC k x hk).lt (hnot k x hk))
  obtain ⟨hPC3, hDC3⟩ := qn_re (σ' := qn_gM σ) qn_layC_ok (Nat.le_of_ble_eq_true rfl) eC (fun s hs => if_pos hs) (fun j hj => qn_gM_C hj) hPC2 hDC
  have eM : qn_Wf α' cA cR (qn_gM σ) qn_layC.length qn_layM = [(h9, .inr (8, [.int 0, .ref q7, .ref q15, .ref q23, .ref q31, .ref q39, .int 0, .ref q48, .int 0, .ref q57, .ref q65, .int 0, .int 0, .int 0, .int 0, .int 0, .int 0, .ref q73, .ref q80, .ref q103, .ref q112, .ref q120, .int 0, .int 0, .int 0, .int 0, .ref q404, .ref q983, .int 0, .int 0, .int 0, .ref q992, .ref q1000, .ref q1008, .int 0, .ref q1016, .int 0, .ref q1024, .int 0])), (q7, .inl (cA, 7, .inl (fun _ => 0))), (q15, .inl (cA, 7, .inl (fun _ => 0))), (q23, .inl (cA, 7, .inl (fun _ => 0))), (q31, .inl (cA, 7, .inl (fun _ => 0))), (q39, .inl (cA, 7, .inl (fun _ => 0))), (q48, .inl (cA, 160, .inl (fun _ => 0))), (q57, .inl (cA, 1200, .inl (fun _ => 0))), (q65, .inl (cA, 24, .inl (fun _ => 0))), (q73, .inl (cA, 21, .inl (fun _ => 0))), (q80, .inl (cA, 4, .inl (qn_ro qn_L51 4))), (q103, .inl (cA, 4, .inl (fun _ => 0))), (q112, .inl (cA, 160, .inl (fun _ => 0))), (q120, .inl (cA, 47, .inl (qn_ro qn_L54 47))), (q404, .inl (cA, 96, .inl (qn_ro qn_L55 96))), (q983, .inl (cA, 200, .inl (fun _ => 0))), (q992, .inl (cA, 200, .inl (fun _ => 0))), (q1000, .inl (cA, 6, .inl (fun _ => 0))), (q1008, .inl (cA, 21, .inl (fun _ => 0))), (q1016, .inl (cA, 7, .inl (fun _ => 0))), (q1024, .inl (cA, 7, .inl (fun _ => 0)))] := by rw [hα']; rfl
  have hD9 : va_D A9 [(h9, .inr (8, [.int 0, .ref q7, .ref q15, .ref q23, .ref q31, .ref q39, .int 0, .ref q48, .int 0, .ref q57, .ref q65, .int 0, .int 0, .int 0, .int 0, .int 0, .int 0, .ref q73, .ref q80, .ref q103, .ref q112, .ref q120, .int 0, .int 0, .int 0, .int 0, .ref q404, .ref q983, .int 0, .int 0, .int 0, .ref q992, .ref q1000, .ref q1008, .int 0, .ref q1016, .int 0, .ref q1024, .int 0])), (q7, .inl (cA, 7, .inl (fun _ => 0))), (q15, .inl (cA, 7, .inl (fun _ => 0))), (q23, .inl (cA, 7, .inl (fun _ => 0))), (q31, .inl (cA, 7, .inl (fun _ => 0))), (q39, .inl (cA, 7, .inl (fun _ => 0))), (q48, .inl (cA, 160, .inl (fun _ => 0))), (q57, .inl (cA, 1200, .inl (fun _ => 0))), (q65, .inl (cA, 24, .inl (fun _ => 0))), (q73, .inl (cA, 21, .inl (fun _ => 0))), (q80, .inl (cA, 4, .inl (qn_ro qn_L51 4))), (q103, .inl (cA, 4, .inl (fun _ => 0))), (q112, .inl (cA, 160, .inl (fun _ => 0))), (q120, .inl (cA, 47, .inl (qn_ro qn_L54 47))), (q404, .inl (cA, 96, .inl (qn_ro qn_L55 96))), (q983, .inl (cA, 200, .inl (fun _ => 0))), (q992, .inl (cA, 200, .inl (fun _ => 0))), (q1000, .inl (cA, 6, .inl (fun _ => 0))), (q1008, .inl (cA, 21, .inl (fun _ => 0))), (q1016, .inl (cA, 7, .inl (fun _ => 0))), (q1024, .inl (cA, 7, .inl (fun _ => 0)))] := hD.weaken (fun _ _ _ h => hsub _ h)
  have hP7 : va_P D vwCl (qm_W α' cA cR qm_lay (qn_gM σ)) H := by rw [qn_lay_eq, qn_W_app, eM]; exact va_P.app hPC3 hP
  have hD7 : va_D A9 (qm_W α' cA cR qm_lay (qn_gM σ)) := by
    rw [qn_lay_eq, qn_W_app, eM]
    refine va_D.app hDC3 hD9 (fun i j x y hi hj hxy => ?_)
    have hi2 : ∃ x2, (qm_W α cA cR qn_layC σ)[i]? = some x2 ∧ x2.1 = x.1 := by
      unfold qm_W at hi ⊢
      rw [List.getElem?_mapIdx] at hi
      rw [List.getElem?_mapIdx]
      have hil : i < 55 := Nat.lt_of_not_le (fun h => by rw [List.getElem?_eq_none (l := qn_layC) h] at hi; cases hi)
      cases e : qn_layC[i]? with
      | none => rw [e] at hi; cases hi
      | some w => rw [e] at hi; cases hi; exact ⟨_, rfl, (eC i hil).symm⟩
    obtain ⟨x2, h1, h2⟩ := hi2
    exact hnot i x2 h1 (by rw [h2, hxy]; exact hD.2 j y hj)
  have hS9 : va_S A9 s.heap H locs := ⟨hS.1, fun q h1 h2 => hS.2.1 q h1 (fun z => h2 (hsub q z)), fun q hq => hsub _ (hS.2.2 q hq)⟩
  obtain ⟨τ, hX, hpM⟩ := qn_mtM (σ := σ)
  obtain ⟨nn, hn⟩ := hX
  have e55 : α' 55 = h9 := by rw [hα']; rfl
  refine qn_imp (qm_walkR qm_jwG qm_wf_lay qm_pool_ok qm_G_good nn 5 mX9_init 1029 _ [] _ none τ hn qn_mokM _ _ _ (Nat.le_of_ble_eq_true rfl) (Nat.le_of_ble_eq_true rfl) (Nat.le_of_ble_eq_true rfl) (Nat.le_of_ble_eq_true rfl) p l e s m _ below meth c H locs ls A9 α' cA cR D hx hb hml hr hlocks hown hG hK hP7 hD7 hS9 hA9 ?_ (qn_Ec eE hE)) (fun t ht => ?_)
  · refine ⟨hl.1, rfl, hl.2.1, fun i v hv => ?_⟩
    rcases i with _ | _ | i
    · cases hv; rw [show qm_rl α' (.ref 55) = .ref h9 from congrArg Value.ref e55]; exact lv_at hl 0 rfl
    · cases hv
    · cases hv
  · obtain ⟨o, h1, h2, ⟨⟨ho, hPt, hKt, hDt⟩, hF⟩, h4⟩ := ht
    exact ⟨o, h1, h2, ⟨⟨(α', τ), ho, hpM α α' h9 eC e55 eE, hPt, hKt, hDt⟩, hF⟩, h4⟩

