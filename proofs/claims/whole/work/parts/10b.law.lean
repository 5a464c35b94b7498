/-! ===== NumberedByAgeLaw.law([I)Z ===== -/
abbrev M_L_law (hh : List (Nat × Nat × Nat × Nat)) : Mx := (cL_law, 8, RL, (false, hh), (some .boolean), 16, 377)
def f_L_law_1172 (sL : Nat) (sxs : Nat → Int32) (k23 : Hp → (Option Nat) → (Option Nat) → (Option Nat) → Int32 → Option (Int32 × Hp)) (h : Hp) (x1 : Option Nat) (x2 : Option Nat) (x3 : Option Nat) (x4 : Int32) : Option (Int32 × Hp) :=
    k23 h x1 x2 x3 (x4 + 6)
set_option maxRecDepth 100000 in
set_option maxHeartbeats 4000000 in
theorem t_L_law_1172 (G : Gx) (l : Launch) (hfl : l.stackTraces = false) (hh : List (Nat × Nat × Nat × Nat)) (k23 : Hp → (Option Nat) → (Option Nat) → (Option Nat) → Int32 → Option (Int32 × Hp)) (hk23 : ∀ (h : Hp) (x1 : Option Nat) (x2 : Option Nat) (x3 : Option Nat) (x4 : Int32) (r : (Int32 × Hp)), k23 h x1 x2 x3 x4 = some r → RJ G l (M_L_law hh) (some (vI r.1)) r.2 23 [(0, vX G.2.2.2.2.2.1), (1, vR x1), (2, vR x2), (3, vR x3), (4, vI x4)] [] h) (h : Hp) (x1 : Option Nat) (x2 : Option Nat) (x3 : Option Nat) (x4 : Int32) (r : (Int32 × Hp)) (hf : f_L_law_1172 G.2.2.2.2.2.2.1 G.2.2.2.2.2.2.2 k23 h x1 x2 x3 x4 = some r) : RJ G l (M_L_law hh) (some (vI r.1)) r.2 1172 [(0, vX G.2.2.2.2.2.1), (1, vR x1), (2, vR x2), (3, vR x3), (4, vI x4)] [] h := by
  unfold f_L_law_1172 at hf
  refine r_iinc (y := (x4 + 6)) (lv' := [(4, vI (x4 + 6)), (0, vX G.2.2.2.2.2.1), (1, vR x1), (2, vR x2), (3, vR x3)]) 4 dL_law_1172 rfl rfl (Nat.le_of_ble_eq_true rfl) rfl ?_
  refine r_goto (tgt := 23) dL_law_1175 (by decide) ?_
  exact r_sub [1, 2, 3, 4, 0] rfl (hk23 _ _ _ _ _ _ hf)
def f_L_law_176 (sL : Nat) (sxs : Nat → Int32) (k23 : Hp → (Option Nat) → (Option Nat) → (Option Nat) → Int32 → Option (Int32 × Hp)) (h : Hp) (x1 : Option Nat) (x2 : Option Nat) (x3 : Option Nat) (x4 : Int32) : Option (Int32 × Hp) :=
    (sI sL sxs (x4 + (1 : Int32))).bind fun v182 =>
    (rcv h x1 10).bind fun a183 =>
    (f_X10_street h a183 v182).bind fun q183 =>
    (sI sL sxs (x4 + (1 : Int32))).bind fun v192 =>
    (rcv q183.2 x2 11).bind fun a193 =>
    (f_X11_street q183.2 a193 v192).bind fun q193 =>
    if q183.1 = q193.1 then
      f_L_law_1172 sL sxs k23 q193.2 x1 x2 x3 x4
    else
      (okZ (0 : Int32)).bind fun z200 => some (z200, q193.2)
set_option maxRecDepth 100000 in
set_option maxHeartbeats 4000000 in
theorem t_L_law_176 (G : Gx) (l : Launch) (hfl : l.stackTraces = false) (hh : List (Nat × Nat × Nat × Nat)) (k23 : Hp → (Option Nat) → (Option Nat) → (Option Nat) → Int32 → Option (Int32 × Hp)) (hk23 : ∀ (h : Hp) (x1 : Option Nat) (x2 : Option Nat) (x3 : Option Nat) (x4 : Int32) (r : (Int32 × Hp)), k23 h x1 x2 x3 x4 = some r → RJ G l (M_L_law hh) (some (vI r.1)) r.2 23 [(0, vX G.2.2.2.2.2.1), (1, vR x1), (2, vR x2), (3, vR x3), (4, vI x4)] [] h) (h : Hp) (x1 : Option Nat) (x2 : Option Nat) (x3 : Option Nat) (x4 : Int32) (r : (Int32 × Hp)) (hf : f_L_law_176 G.2.2.2.2.2.2.1 G.2.2.2.2.2.2.2 k23 h x1 x2 x3 x4 = some r) : RJ G l (M_L_law hh) (some (vI r.1)) r.2 176 [(0, vX G.2.2.2.2.2.1), (1, vR x1), (2, vR x2), (3, vR x3), (4, vI x4)] [] h := by
  unfold f_L_law_176 at hf
  refine r_aload_n 1 dL_law_176 rfl ?_
  refine r_aload_x 0 dL_law_177 rfl ?_
  refine r_iload 4 dL_law_178 rfl ?_
  refine r_iconst (x := (1 : Int32)) dL_law_180 (by decide) ?_
  refine r_iadd dL_law_181 ?_
  obtain ⟨v182, e182, hf⟩ := ob hf
  refine r_sload dL_law_182 e182 ?_
  obtain ⟨a183, ea183, hf⟩ := ob hf
  obtain ⟨q183, e183, hf⟩ := ob hf
  refine r_callV (y := yX10_street) (ci := 10) (avs := [vI v182]) dL_law_183 rfl kw_1_137 kw_1_138 kw_1_139 kw_1_1 kw_1_140 oky_X10_street ⟨Nat.le_of_ble_eq_true rfl, Nat.le_of_ble_eq_true rfl⟩ rfl (Nat.le_of_ble_eq_true rfl) ea183 (k_X10_street G l e183) ?_
  refine r_aload_n 2 dL_law_186 rfl ?_
  refine r_aload_x 0 dL_law_187 rfl ?_
  refine r_iload 4 dL_law_188 rfl ?_
  refine r_iconst (x := (1 : Int32)) dL_law_190 (by decide) ?_
  refine r_iadd dL_law_191 ?_
  obtain ⟨v192, e192, hf⟩ := ob hf
  refine r_sload dL_law_192 e192 ?_
  refine r_pc (pc' := 193) rfl ?_
  obtain ⟨a193, ea193, hf⟩ := ob hf
  obtain ⟨q193, e193, hf⟩ := ob hf
  refine r_callV (y := yX11_street) (ci := 11) (avs := [vI v192]) dL_law_193 rfl kw_4_166 kw_4_167 kw_4_168 kw_1_5 kw_4_169 oky_X11_street ⟨Nat.le_of_ble_eq_true rfl, Nat.le_of_ble_eq_true rfl⟩ rfl (Nat.le_of_ble_eq_true rfl) ea193 (k_X11_street G l e193) ?_
  refine r_icmp_eq (tgt := 1172) dL_law_196 (by decide) (fun c196 => ?_) (fun c196 => ?_)
  · replace hf := (if_pos c196).symm.trans hf
    exact r_sub [0, 1, 2, 3, 4] rfl (t_L_law_1172 G l hfl hh k23 hk23 _ _ _ _ _ _ hf)
  · replace hf := (if_neg c196).symm.trans hf
    refine r_iconst (x := (0 : Int32)) dL_law_199 (by decide) ?_
    obtain ⟨z200, ez200, hf⟩ := ob hf
    have hf := Option.some.inj hf
    subst hf
    exact r_zret rfl dL_law_200 ez200
def f_L_law_201 (sL : Nat) (sxs : Nat → Int32) (k23 : Hp → (Option Nat) → (Option Nat) → (Option Nat) → Int32 → Option (Int32 × Hp)) (h : Hp) (x1 : Option Nat) (x2 : Option Nat) (x3 : Option Nat) (x4 : Int32) : Option (Int32 × Hp) :=
    (sI sL sxs (x4 + (1 : Int32))).bind fun v207 =>
    (sI sL sxs (x4 + (2 : Int32))).bind fun v213 =>
    (rcv h x1 10).bind fun a214 =>
    (f_X10_build h a214 v207 v213).bind fun q214 =>
    (sI sL sxs (x4 + (1 : Int32))).bind fun v223 =>
    (sI sL sxs (x4 + (2 : Int32))).bind fun v229 =>
    (rcv q214.2 x2 11).bind fun a230 =>
    (f_X11_build q214.2 a230 v223 v229).bind fun q230 =>
    if q214.1 = q230.1 then
      f_L_law_1172 sL sxs k23 q230.2 x1 x2 x3 x4
    else
      (okZ (0 : Int32)).bind fun z237 => some (z237, q230.2)
set_option maxRecDepth 100000 in
set_option maxHeartbeats 4000000 in
theorem t_L_law_201 (G : Gx) (l : Launch) (hfl : l.stackTraces = false) (hh : List (Nat × Nat × Nat × Nat)) (k23 : Hp → (Option Nat) → (Option Nat) → (Option Nat) → Int32 → Option (Int32 × Hp)) (hk23 : ∀ (h : Hp) (x1 : Option Nat) (x2 : Option Nat) (x3 : Option Nat) (x4 : Int32) (r : (Int32 × Hp)), k23 h x1 x2 x3 x4 = some r → RJ G l (M_L_law hh) (some (vI r.1)) r.2 23 [(0, vX G.2.2.2.2.2.1), (1, vR x1), (2, vR x2), (3, vR x3), (4, vI x4)] [] h) (h : Hp) (x1 : Option Nat) (x2 : Option Nat) (x3 : Option Nat) (x4 : Int32) (r : (Int32 × Hp)) (hf : f_L_law_201 G.2.2.2.2.2.2.1 G.2.2.2.2.2.2.2 k23 h x1 x2 x3 x4 = some r) : RJ G l (M_L_law hh) (some (vI r.1)) r.2 201 [(0, vX G.2.2.2.2.2.1), (1, vR x1), (2, vR x2), (3, vR x3), (4, vI x4)] [] h := by
  unfold f_L_law_201 at hf
  refine r_aload_n 1 dL_law_201 rfl ?_
  refine r_aload_x 0 dL_law_202 rfl ?_
  refine r_iload 4 dL_law_203 rfl ?_
  refine r_iconst (x := (1 : Int32)) dL_law_205 (by decide) ?_
  refine r_iadd dL_law_206 ?_
  obtain ⟨v207, e207, hf⟩ := ob hf
  refine r_sload dL_law_207 e207 ?_
  refine r_aload_x 0 dL_law_208 rfl ?_
  refine r_iload 4 dL_law_209 rfl ?_
  refine r_iconst (x := (2 : Int32)) dL_law_211 (by decide) ?_
  refine r_iadd dL_law_212 ?_
  obtain ⟨v213, e213, hf⟩ := ob hf
  refine r_sload dL_law_213 e213 ?_
  obtain ⟨a214, ea214, hf⟩ := ob hf
  obtain ⟨q214, e214, hf⟩ := ob hf
  refine r_callV (y := yX10_build) (ci := 10) (avs := [vI v207, vI v213]) dL_law_214 rfl kw_2_88 kw_2_89 kw_2_90 kw_1_1 kw_2_91 oky_X10_build ⟨Nat.le_of_ble_eq_true rfl, Nat.le_of_ble_eq_true rfl⟩ rfl (Nat.le_of_ble_eq_true rfl) ea214 (k_X10_build G l e214) ?_
  refine r_aload_n 2 dL_law_217 rfl ?_
  refine r_pc (pc' := 218) rfl ?_
  refine r_aload_x 0 dL_law_218 rfl ?_
  refine r_iload 4 dL_law_219 rfl ?_
  refine r_iconst (x := (1 : Int32)) dL_law_221 (by decide) ?_
  refine r_iadd dL_law_222 ?_
  obtain ⟨v223, e223, hf⟩ := ob hf
  refine r_sload dL_law_223 e223 ?_
  refine r_aload_x 0 dL_law_224 rfl ?_
  refine r_iload 4 dL_law_225 rfl ?_
  refine r_iconst (x := (2 : Int32)) dL_law_227 (by decide) ?_
  refine r_iadd dL_law_228 ?_
  obtain ⟨v229, e229, hf⟩ := ob hf
  refine r_sload dL_law_229 e229 ?_
  obtain ⟨a230, ea230, hf⟩ := ob hf
  obtain ⟨q230, e230, hf⟩ := ob hf
  refine r_callV (y := yX11_build) (ci := 11) (avs := [vI v223, vI v229]) dL_law_230 rfl kw_5_11 kw_5_12 kw_5_13 kw_1_5 kw_5_14 oky_X11_build ⟨Nat.le_of_ble_eq_true rfl, Nat.le_of_ble_eq_true rfl⟩ rfl (Nat.le_of_ble_eq_true rfl) ea230 (k_X11_build G l e230) ?_
  refine r_icmp_eq (tgt := 1172) dL_law_233 (by decide) (fun c233 => ?_) (fun c233 => ?_)
  · replace hf := (if_pos c233).symm.trans hf
    exact r_sub [0, 1, 2, 3, 4] rfl (t_L_law_1172 G l hfl hh k23 hk23 _ _ _ _ _ _ hf)
  · replace hf := (if_neg c233).symm.trans hf
    refine r_iconst (x := (0 : Int32)) dL_law_236 (by decide) ?_
    obtain ⟨z237, ez237, hf⟩ := ob hf
    have hf := Option.some.inj hf
    subst hf
    exact r_zret rfl dL_law_237 ez237
def f_L_law_238 (sL : Nat) (sxs : Nat → Int32) (k23 : Hp → (Option Nat) → (Option Nat) → (Option Nat) → Int32 → Option (Int32 × Hp)) (h : Hp) (x1 : Option Nat) (x2 : Option Nat) (x3 : Option Nat) (x4 : Int32) : Option (Int32 × Hp) :=
    (sI sL sxs (x4 + (1 : Int32))).bind fun v244 =>
    (rcv h x1 10).bind fun a245 =>
    (f_X10_burn h a245 v244).bind fun q245 =>
    (sI sL sxs (x4 + (1 : Int32))).bind fun v254 =>
    (rcv q245.2 x2 11).bind fun a255 =>
    (f_X11_burn q245.2 a255 v254).bind fun q255 =>
    if q245.1 = q255.1 then
      f_L_law_1172 sL sxs k23 q255.2 x1 x2 x3 x4
    else
      (okZ (0 : Int32)).bind fun z262 => some (z262, q255.2)
set_option maxRecDepth 100000 in
set_option maxHeartbeats 4000000 in
theorem t_L_law_238 (G : Gx) (l : Launch) (hfl : l.stackTraces = false) (hh : List (Nat × Nat × Nat × Nat)) (k23 : Hp → (Option Nat) → (Option Nat) → (Option Nat) → Int32 → Option (Int32 × Hp)) (hk23 : ∀ (h : Hp) (x1 : Option Nat) (x2 : Option Nat) (x3 : Option Nat) (x4 : Int32) (r : (Int32 × Hp)), k23 h x1 x2 x3 x4 = some r → RJ G l (M_L_law hh) (some (vI r.1)) r.2 23 [(0, vX G.2.2.2.2.2.1), (1, vR x1), (2, vR x2), (3, vR x3), (4, vI x4)] [] h) (h : Hp) (x1 : Option Nat) (x2 : Option Nat) (x3 : Option Nat) (x4 : Int32) (r : (Int32 × Hp)) (hf : f_L_law_238 G.2.2.2.2.2.2.1 G.2.2.2.2.2.2.2 k23 h x1 x2 x3 x4 = some r) : RJ G l (M_L_law hh) (some (vI r.1)) r.2 238 [(0, vX G.2.2.2.2.2.1), (1, vR x1), (2, vR x2), (3, vR x3), (4, vI x4)] [] h := by
  unfold f_L_law_238 at hf
  refine r_aload_n 1 dL_law_238 rfl ?_
  refine r_aload_x 0 dL_law_239 rfl ?_
  refine r_iload 4 dL_law_240 rfl ?_
  refine r_iconst (x := (1 : Int32)) dL_law_242 (by decide) ?_
  refine r_iadd dL_law_243 ?_
  obtain ⟨v244, e244, hf⟩ := ob hf
  refine r_sload dL_law_244 e244 ?_
  obtain ⟨a245, ea245, hf⟩ := ob hf
  obtain ⟨q245, e245, hf⟩ := ob hf
  refine r_callV (y := yX10_burn) (ci := 10) (avs := [vI v244]) dL_law_245 rfl kw_2_92 kw_2_93 kw_2_94 kw_1_1 kw_2_95 oky_X10_burn ⟨Nat.le_of_ble_eq_true rfl, Nat.le_of_ble_eq_true rfl⟩ rfl (Nat.le_of_ble_eq_true rfl) ea245 (k_X10_burn G l e245) ?_
  refine r_aload_n 2 dL_law_248 rfl ?_
  refine r_aload_x 0 dL_law_249 rfl ?_
  refine r_iload 4 dL_law_250 rfl ?_
  refine r_iconst (x := (1 : Int32)) dL_law_252 (by decide) ?_
  refine r_iadd dL_law_253 ?_
  obtain ⟨v254, e254, hf⟩ := ob hf
  refine r_sload dL_law_254 e254 ?_
  refine r_pc (pc' := 255) rfl ?_
  obtain ⟨a255, ea255, hf⟩ := ob hf
  obtain ⟨q255, e255, hf⟩ := ob hf
  refine r_callV (y := yX11_burn) (ci := 11) (avs := [vI v254]) dL_law_255 rfl kw_5_20 kw_5_21 kw_5_22 kw_1_5 kw_5_23 oky_X11_burn ⟨Nat.le_of_ble_eq_true rfl, Nat.le_of_ble_eq_true rfl⟩ rfl (Nat.le_of_ble_eq_true rfl) ea255 (k_X11_burn G l e255) ?_
  refine r_icmp_eq (tgt := 1172) dL_law_258 (by decide) (fun c258 => ?_) (fun c258 => ?_)
  · replace hf := (if_pos c258).symm.trans hf
    exact r_sub [0, 1, 2, 3, 4] rfl (t_L_law_1172 G l hfl hh k23 hk23 _ _ _ _ _ _ hf)
  · replace hf := (if_neg c258).symm.trans hf
    refine r_iconst (x := (0 : Int32)) dL_law_261 (by decide) ?_
    obtain ⟨z262, ez262, hf⟩ := ob hf
    have hf := Option.some.inj hf
    subst hf
    exact r_zret rfl dL_law_262 ez262
def f_L_law_263 (sL : Nat) (sxs : Nat → Int32) (k23 : Hp → (Option Nat) → (Option Nat) → (Option Nat) → Int32 → Option (Int32 × Hp)) (h : Hp) (x1 : Option Nat) (x2 : Option Nat) (x3 : Option Nat) (x4 : Int32) : Option (Int32 × Hp) :=
    (sI sL sxs (x4 + (1 : Int32))).bind fun v269 =>
    (rcv h x1 10).bind fun a270 =>
    (f_X10_enact h a270 v269).bind fun q270 =>
    (sI sL sxs (x4 + (1 : Int32))).bind fun v279 =>
    (rcv q270.2 x2 11).bind fun a280 =>
    (f_X11_enact q270.2 a280 v279).bind fun q280 =>
    if q270.1 = q280.1 then
      f_L_law_1172 sL sxs k23 q280.2 x1 x2 x3 x4
    else
      (okZ (0 : Int32)).bind fun z287 => some (z287, q280.2)
set_option maxRecDepth 100000 in
set_option maxHeartbeats 4000000 in
theorem t_L_law_263 (G : Gx) (l : Launch) (hfl : l.stackTraces = false) (hh : List (Nat × Nat × Nat × Nat)) (k23 : Hp → (Option Nat) → (Option Nat) → (Option Nat) → Int32 → Option (Int32 × Hp)) (hk23 : ∀ (h : Hp) (x1 : Option Nat) (x2 : Option Nat) (x3 : Option Nat) (x4 : Int32) (r : (Int32 × Hp)), k23 h x1 x2 x3 x4 = some r → RJ G l (M_L_law hh) (some (vI r.1)) r.2 23 [(0, vX G.2.2.2.2.2.1), (1, vR x1), (2, vR x2), (3, vR x3), (4, vI x4)] [] h) (h : Hp) (x1 : Option Nat) (x2 : Option Nat) (x3 : Option Nat) (x4 : Int32) (r : (Int32 × Hp)) (hf : f_L_law_263 G.2.2.2.2.2.2.1 G.2.2.2.2.2.2.2 k23 h x1 x2 x3 x4 = some r) : RJ G l (M_L_law hh) (some (vI r.1)) r.2 263 [(0, vX G.2.2.2.2.2.1), (1, vR x1), (2, vR x2), (3, vR x3), (4, vI x4)] [] h := by
  unfold f_L_law_263 at hf
  refine r_aload_n 1 dL_law_263 rfl ?_
  refine r_aload_x 0 dL_law_264 rfl ?_
  refine r_iload 4 dL_law_265 rfl ?_
  refine r_iconst (x := (1 : Int32)) dL_law_267 (by decide) ?_
  refine r_iadd dL_law_268 ?_
  obtain ⟨v269, e269, hf⟩ := ob hf
  refine r_sload dL_law_269 e269 ?_
  obtain ⟨a270, ea270, hf⟩ := ob hf
  obtain ⟨q270, e270, hf⟩ := ob hf
  refine r_callV (y := yX10_enact) (ci := 10) (avs := [vI v269]) dL_law_270 rfl kw_2_96 kw_2_97 kw_2_98 kw_1_1 kw_2_99 oky_X10_enact ⟨Nat.le_of_ble_eq_true rfl, Nat.le_of_ble_eq_true rfl⟩ rfl (Nat.le_of_ble_eq_true rfl) ea270 (k_X10_enact G l e270) ?_
  refine r_aload_n 2 dL_law_273 rfl ?_
  refine r_aload_x 0 dL_law_274 rfl ?_
  refine r_iload 4 dL_law_275 rfl ?_
  refine r_iconst (x := (1 : Int32)) dL_law_277 (by decide) ?_
  refine r_iadd dL_law_278 ?_
  obtain ⟨v279, e279, hf⟩ := ob hf
  refine r_sload dL_law_279 e279 ?_
  refine r_pc (pc' := 280) rfl ?_
  obtain ⟨a280, ea280, hf⟩ := ob hf
  obtain ⟨q280, e280, hf⟩ := ob hf
  refine r_callV (y := yX11_enact) (ci := 11) (avs := [vI v279]) dL_law_280 rfl kw_5_24 kw_5_25 kw_5_26 kw_1_5 kw_5_27 oky_X11_enact ⟨Nat.le_of_ble_eq_true rfl, Nat.le_of_ble_eq_true rfl⟩ rfl (Nat.le_of_ble_eq_true rfl) ea280 (k_X11_enact G l e280) ?_
  refine r_icmp_eq (tgt := 1172) dL_law_283 (by decide) (fun c283 => ?_) (fun c283 => ?_)
  · replace hf := (if_pos c283).symm.trans hf
    exact r_sub [0, 1, 2, 3, 4] rfl (t_L_law_1172 G l hfl hh k23 hk23 _ _ _ _ _ _ hf)
  · replace hf := (if_neg c283).symm.trans hf
    refine r_iconst (x := (0 : Int32)) dL_law_286 (by decide) ?_
    obtain ⟨z287, ez287, hf⟩ := ob hf
    have hf := Option.some.inj hf
    subst hf
    exact r_zret rfl dL_law_287 ez287
def f_L_law_288 (sL : Nat) (sxs : Nat → Int32) (k23 : Hp → (Option Nat) → (Option Nat) → (Option Nat) → Int32 → Option (Int32 × Hp)) (h : Hp) (x1 : Option Nat) (x2 : Option Nat) (x3 : Option Nat) (x4 : Int32) : Option (Int32 × Hp) :=
    (sI sL sxs (x4 + (1 : Int32))).bind fun v294 =>
    (sI sL sxs (x4 + (2 : Int32))).bind fun v300 =>
    (rcv h x1 10).bind fun a301 =>
    (f_X10_house h a301 v294 v300).bind fun v301 =>
    (sI sL sxs (x4 + (1 : Int32))).bind fun v310 =>
    (sI sL sxs (x4 + (2 : Int32))).bind fun v316 =>
    (rcv h x2 11).bind fun a317 =>
    (f_X11_house h a317 v310 v316).bind fun q317 =>
    if v301 = q317.1 then
      f_L_law_1172 sL sxs k23 q317.2 x1 x2 x3 x4
    else
      (okZ (0 : Int32)).bind fun z324 => some (z324, q317.2)
set_option maxRecDepth 100000 in
set_option maxHeartbeats 4000000 in
theorem t_L_law_288 (G : Gx) (l : Launch) (hfl : l.stackTraces = false) (hh : List (Nat × Nat × Nat × Nat)) (k23 : Hp → (Option Nat) → (Option Nat) → (Option Nat) → Int32 → Option (Int32 × Hp)) (hk23 : ∀ (h : Hp) (x1 : Option Nat) (x2 : Option Nat) (x3 : Option Nat) (x4 : Int32) (r : (Int32 × Hp)), k23 h x1 x2 x3 x4 = some r → RJ G l (M_L_law hh) (some (vI r.1)) r.2 23 [(0, vX G.2.2.2.2.2.1), (1, vR x1), (2, vR x2), (3, vR x3), (4, vI x4)] [] h) (h : Hp) (x1 : Option Nat) (x2 : Option Nat) (x3 : Option Nat) (x4 : Int32) (r : (Int32 × Hp)) (hf : f_L_law_288 G.2.2.2.2.2.2.1 G.2.2.2.2.2.2.2 k23 h x1 x2 x3 x4 = some r) : RJ G l (M_L_law hh) (some (vI r.1)) r.2 288 [(0, vX G.2.2.2.2.2.1), (1, vR x1), (2, vR x2), (3, vR x3), (4, vI x4)] [] h := by
  unfold f_L_law_288 at hf
  refine r_aload_n 1 dL_law_288 rfl ?_
  refine r_aload_x 0 dL_law_289 rfl ?_
  refine r_iload 4 dL_law_290 rfl ?_
  refine r_iconst (x := (1 : Int32)) dL_law_292 (by decide) ?_
  refine r_iadd dL_law_293 ?_
  obtain ⟨v294, e294, hf⟩ := ob hf
  refine r_sload dL_law_294 e294 ?_
  refine r_aload_x 0 dL_law_295 rfl ?_
  refine r_iload 4 dL_law_296 rfl ?_
  refine r_iconst (x := (2 : Int32)) dL_law_298 (by decide) ?_
  refine r_iadd dL_law_299 ?_
  obtain ⟨v300, e300, hf⟩ := ob hf
  refine r_sload dL_law_300 e300 ?_
  obtain ⟨a301, ea301, hf⟩ := ob hf
  obtain ⟨v301, e301, hf⟩ := ob hf
  refine r_callV (y := yX10_house) (ci := 10) (avs := [vI v294, vI v300]) dL_law_301 rfl kw_2_104 kw_2_105 kw_2_106 kw_1_1 kw_2_107 oky_X10_house ⟨Nat.le_of_ble_eq_true rfl, Nat.le_of_ble_eq_true rfl⟩ rfl (Nat.le_of_ble_eq_true rfl) ea301 (k_X10_house G l e301) ?_
  refine r_aload_n 2 dL_law_304 rfl ?_
  refine r_pc (pc' := 305) rfl ?_
  refine r_aload_x 0 dL_law_305 rfl ?_
  refine r_iload 4 dL_law_306 rfl ?_
  refine r_iconst (x := (1 : Int32)) dL_law_308 (by decide) ?_
  refine r_iadd dL_law_309 ?_
  obtain ⟨v310, e310, hf⟩ := ob hf
  refine r_sload dL_law_310 e310 ?_
  refine r_aload_x 0 dL_law_311 rfl ?_
  refine r_iload 4 dL_law_312 rfl ?_
  refine r_iconst (x := (2 : Int32)) dL_law_314 (by decide) ?_
  refine r_iadd dL_law_315 ?_
  obtain ⟨v316, e316, hf⟩ := ob hf
  refine r_sload dL_law_316 e316 ?_
  obtain ⟨a317, ea317, hf⟩ := ob hf
  obtain ⟨q317, e317, hf⟩ := ob hf
  refine r_callV (y := yX11_house) (ci := 11) (avs := [vI v310, vI v316]) dL_law_317 rfl kw_5_32 kw_5_33 kw_5_34 kw_1_5 kw_5_35 oky_X11_house ⟨Nat.le_of_ble_eq_true rfl, Nat.le_of_ble_eq_true rfl⟩ rfl (Nat.le_of_ble_eq_true rfl) ea317 (k_X11_house G l e317) ?_
  refine r_icmp_eq (tgt := 1172) dL_law_320 (by decide) (fun c320 => ?_) (fun c320 => ?_)
  · replace hf := (if_pos c320).symm.trans hf
    exact r_sub [0, 1, 2, 3, 4] rfl (t_L_law_1172 G l hfl hh k23 hk23 _ _ _ _ _ _ hf)
  · replace hf := (if_neg c320).symm.trans hf
    refine r_iconst (x := (0 : Int32)) dL_law_323 (by decide) ?_
    obtain ⟨z324, ez324, hf⟩ := ob hf
    have hf := Option.some.inj hf
    subst hf
    exact r_zret rfl dL_law_324 ez324
def f_L_law_325 (sL : Nat) (sxs : Nat → Int32) (k23 : Hp → (Option Nat) → (Option Nat) → (Option Nat) → Int32 → Option (Int32 × Hp)) (h : Hp) (x1 : Option Nat) (x2 : Option Nat) (x3 : Option Nat) (x4 : Int32) : Option (Int32 × Hp) :=
    (sI sL sxs (x4 + (1 : Int32))).bind fun v331 =>
    (rcv h x1 10).bind fun a332 =>
    (f_X10_have h a332 v331).bind fun v332 =>
    (sI sL sxs (x4 + (1 : Int32))).bind fun v341 =>
    (rcv h x2 11).bind fun a342 =>
    (f_X11_have h a342 v341).bind fun q342 =>
    if v332 = q342.1 then
      f_L_law_1172 sL sxs k23 q342.2 x1 x2 x3 x4
    else
      (okZ (0 : Int32)).bind fun z349 => some (z349, q342.2)
set_option maxRecDepth 100000 in
set_option maxHeartbeats 4000000 in
theorem t_L_law_325 (G : Gx) (l : Launch) (hfl : l.stackTraces = false) (hh : List (Nat × Nat × Nat × Nat)) (k23 : Hp → (Option Nat) → (Option Nat) → (Option Nat) → Int32 → Option (Int32 × Hp)) (hk23 : ∀ (h : Hp) (x1 : Option Nat) (x2 : Option Nat) (x3 : Option Nat) (x4 : Int32) (r : (Int32 × Hp)), k23 h x1 x2 x3 x4 = some r → RJ G l (M_L_law hh) (some (vI r.1)) r.2 23 [(0, vX G.2.2.2.2.2.1), (1, vR x1), (2, vR x2), (3, vR x3), (4, vI x4)] [] h) (h : Hp) (x1 : Option Nat) (x2 : Option Nat) (x3 : Option Nat) (x4 : Int32) (r : (Int32 × Hp)) (hf : f_L_law_325 G.2.2.2.2.2.2.1 G.2.2.2.2.2.2.2 k23 h x1 x2 x3 x4 = some r) : RJ G l (M_L_law hh) (some (vI r.1)) r.2 325 [(0, vX G.2.2.2.2.2.1), (1, vR x1), (2, vR x2), (3, vR x3), (4, vI x4)] [] h := by
  unfold f_L_law_325 at hf
  refine r_aload_n 1 dL_law_325 rfl ?_
  refine r_aload_x 0 dL_law_326 rfl ?_
  refine r_iload 4 dL_law_327 rfl ?_
  refine r_iconst (x := (1 : Int32)) dL_law_329 (by decide) ?_
  refine r_iadd dL_law_330 ?_
  obtain ⟨v331, e331, hf⟩ := ob hf
  refine r_sload dL_law_331 e331 ?_
  obtain ⟨a332, ea332, hf⟩ := ob hf
  obtain ⟨v332, e332, hf⟩ := ob hf
  refine r_callV (y := yX10_have) (ci := 10) (avs := [vI v331]) dL_law_332 rfl kw_2_119 kw_2_120 kw_2_121 kw_1_1 kw_2_122 oky_X10_have ⟨Nat.le_of_ble_eq_true rfl, Nat.le_of_ble_eq_true rfl⟩ rfl (Nat.le_of_ble_eq_true rfl) ea332 (k_X10_have G l e332) ?_
  refine r_aload_n 2 dL_law_335 rfl ?_
  refine r_aload_x 0 dL_law_336 rfl ?_
  refine r_iload 4 dL_law_337 rfl ?_
  refine r_iconst (x := (1 : Int32)) dL_law_339 (by decide) ?_
  refine r_iadd dL_law_340 ?_
  obtain ⟨v341, e341, hf⟩ := ob hf
  refine r_sload dL_law_341 e341 ?_
  refine r_pc (pc' := 342) rfl ?_
  obtain ⟨a342, ea342, hf⟩ := ob hf
  obtain ⟨q342, e342, hf⟩ := ob hf
  refine r_callV (y := yX11_have) (ci := 11) (avs := [vI v341]) dL_law_342 rfl kw_5_41 kw_5_42 kw_5_43 kw_1_5 kw_5_44 oky_X11_have ⟨Nat.le_of_ble_eq_true rfl, Nat.le_of_ble_eq_true rfl⟩ rfl (Nat.le_of_ble_eq_true rfl) ea342 (k_X11_have G l e342) ?_
  refine r_icmp_eq (tgt := 1172) dL_law_345 (by decide) (fun c345 => ?_) (fun c345 => ?_)
  · replace hf := (if_pos c345).symm.trans hf
    exact r_sub [0, 1, 2, 3, 4] rfl (t_L_law_1172 G l hfl hh k23 hk23 _ _ _ _ _ _ hf)
  · replace hf := (if_neg c345).symm.trans hf
    refine r_iconst (x := (0 : Int32)) dL_law_348 (by decide) ?_
    obtain ⟨z349, ez349, hf⟩ := ob hf
    have hf := Option.some.inj hf
    subst hf
    exact r_zret rfl dL_law_349 ez349
def f_L_law_350 (sL : Nat) (sxs : Nat → Int32) (k23 : Hp → (Option Nat) → (Option Nat) → (Option Nat) → Int32 → Option (Int32 × Hp)) (h : Hp) (x1 : Option Nat) (x2 : Option Nat) (x3 : Option Nat) (x4 : Int32) : Option (Int32 × Hp) :=
    (sI sL sxs (x4 + (1 : Int32))).bind fun v356 =>
    (sI sL sxs (x4 + (2 : Int32))).bind fun v362 =>
    (rcv h x1 10).bind fun a363 =>
    (f_X10_would h a363 v356 v362).bind fun v363 =>
    (sI sL sxs (x4 + (1 : Int32))).bind fun v372 =>
    (sI sL sxs (x4 + (2 : Int32))).bind fun v378 =>
    (rcv h x2 11).bind fun a379 =>
    (f_X11_would h a379 v372 v378).bind fun q379 =>
    if v363 = q379.1 then
      f_L_law_1172 sL sxs k23 q379.2 x1 x2 x3 x4
    else
      (okZ (0 : Int32)).bind fun z386 => some (z386, q379.2)
set_option maxRecDepth 100000 in
set_option maxHeartbeats 4000000 in
theorem t_L_law_350 (G : Gx) (l : Launch) (hfl : l.stackTraces = false) (hh : List (Nat × Nat × Nat × Nat)) (k23 : Hp → (Option Nat) → (Option Nat) → (Option Nat) → Int32 → Option (Int32 × Hp)) (hk23 : ∀ (h : Hp) (x1 : Option Nat) (x2 : Option Nat) (x3 : Option Nat) (x4 : Int32) (r : (Int32 × Hp)), k23 h x1 x2 x3 x4 = some r → RJ G l (M_L_law hh) (some (vI r.1)) r.2 23 [(0, vX G.2.2.2.2.2.1), (1, vR x1), (2, vR x2), (3, vR x3), (4, vI x4)] [] h) (h : Hp) (x1 : Option Nat) (x2 : Option Nat) (x3 : Option Nat) (x4 : Int32) (r : (Int32 × Hp)) (hf : f_L_law_350 G.2.2.2.2.2.2.1 G.2.2.2.2.2.2.2 k23 h x1 x2 x3 x4 = some r) : RJ G l (M_L_law hh) (some (vI r.1)) r.2 350 [(0, vX G.2.2.2.2.2.1), (1, vR x1), (2, vR x2), (3, vR x3), (4, vI x4)] [] h := by
  unfold f_L_law_350 at hf
  refine r_aload_n 1 dL_law_350 rfl ?_
  refine r_aload_x 0 dL_law_351 rfl ?_
  refine r_iload 4 dL_law_352 rfl ?_
  refine r_iconst (x := (1 : Int32)) dL_law_354 (by decide) ?_
  refine r_iadd dL_law_355 ?_
  obtain ⟨v356, e356, hf⟩ := ob hf
  refine r_sload dL_law_356 e356 ?_
  refine r_aload_x 0 dL_law_357 rfl ?_
  refine r_iload 4 dL_law_358 rfl ?_
  refine r_iconst (x := (2 : Int32)) dL_law_360 (by decide) ?_
  refine r_iadd dL_law_361 ?_
  obtain ⟨v362, e362, hf⟩ := ob hf
  refine r_sload dL_law_362 e362 ?_
  obtain ⟨a363, ea363, hf⟩ := ob hf
  obtain ⟨v363, e363, hf⟩ := ob hf
  refine r_callV (y := yX10_would) (ci := 10) (avs := [vI v356, vI v362]) dL_law_363 rfl kw_2_127 kw_2_128 kw_2_129 kw_1_1 kw_2_130 oky_X10_would ⟨Nat.le_of_ble_eq_true rfl, Nat.le_of_ble_eq_true rfl⟩ rfl (Nat.le_of_ble_eq_true rfl) ea363 (k_X10_would G l e363) ?_
  refine r_aload_n 2 dL_law_366 rfl ?_
  refine r_pc (pc' := 367) rfl ?_
  refine r_aload_x 0 dL_law_367 rfl ?_
  refine r_iload 4 dL_law_368 rfl ?_
  refine r_iconst (x := (1 : Int32)) dL_law_370 (by decide) ?_
  refine r_iadd dL_law_371 ?_
  obtain ⟨v372, e372, hf⟩ := ob hf
  refine r_sload dL_law_372 e372 ?_
  refine r_aload_x 0 dL_law_373 rfl ?_
  refine r_iload 4 dL_law_374 rfl ?_
  refine r_iconst (x := (2 : Int32)) dL_law_376 (by decide) ?_
  refine r_iadd dL_law_377 ?_
  obtain ⟨v378, e378, hf⟩ := ob hf
  refine r_sload dL_law_378 e378 ?_
  obtain ⟨a379, ea379, hf⟩ := ob hf
  obtain ⟨q379, e379, hf⟩ := ob hf
  refine r_callV (y := yX11_would) (ci := 11) (avs := [vI v372, vI v378]) dL_law_379 rfl kw_5_45 kw_5_46 kw_5_47 kw_1_5 kw_5_48 oky_X11_would ⟨Nat.le_of_ble_eq_true rfl, Nat.le_of_ble_eq_true rfl⟩ rfl (Nat.le_of_ble_eq_true rfl) ea379 (k_X11_would G l e379) ?_
  refine r_icmp_eq (tgt := 1172) dL_law_382 (by decide) (fun c382 => ?_) (fun c382 => ?_)
  · replace hf := (if_pos c382).symm.trans hf
    exact r_sub [0, 1, 2, 3, 4] rfl (t_L_law_1172 G l hfl hh k23 hk23 _ _ _ _ _ _ hf)
  · replace hf := (if_neg c382).symm.trans hf
    refine r_iconst (x := (0 : Int32)) dL_law_385 (by decide) ?_
    obtain ⟨z386, ez386, hf⟩ := ob hf
    have hf := Option.some.inj hf
    subst hf
    exact r_zret rfl dL_law_386 ez386
def f_L_law_387 (sL : Nat) (sxs : Nat → Int32) (k23 : Hp → (Option Nat) → (Option Nat) → (Option Nat) → Int32 → Option (Int32 × Hp)) (h : Hp) (x1 : Option Nat) (x2 : Option Nat) (x3 : Option Nat) (x4 : Int32) : Option (Int32 × Hp) :=
    (sI sL sxs (x4 + (1 : Int32))).bind fun v393 =>
    (sI sL sxs (x4 + (2 : Int32))).bind fun v399 =>
    (rcv h x1 10).bind fun a400 =>
    (f_X10_where h a400 v393 v399).bind fun v400 =>
    (sI sL sxs (x4 + (1 : Int32))).bind fun v409 =>
    (sI sL sxs (x4 + (2 : Int32))).bind fun v415 =>
    (rcv h x2 11).bind fun a416 =>
    (f_X11_where h a416 v409 v415).bind fun q416 =>
    if v400 = q416.1 then
      f_L_law_1172 sL sxs k23 q416.2 x1 x2 x3 x4
    else
      (okZ (0 : Int32)).bind fun z423 => some (z423, q416.2)
set_option maxRecDepth 100000 in
set_option maxHeartbeats 4000000 in
theorem t_L_law_387 (G : Gx) (l : Launch) (hfl : l.stackTraces = false) (hh : List (Nat × Nat × Nat × Nat)) (k23 : Hp → (Option Nat) → (Option Nat) → (Option Nat) → Int32 → Option (Int32 × Hp)) (hk23 : ∀ (h : Hp) (x1 : Option Nat) (x2 : Option Nat) (x3 : Option Nat) (x4 : Int32) (r : (Int32 × Hp)), k23 h x1 x2 x3 x4 = some r → RJ G l (M_L_law hh) (some (vI r.1)) r.2 23 [(0, vX G.2.2.2.2.2.1), (1, vR x1), (2, vR x2), (3, vR x3), (4, vI x4)] [] h) (h : Hp) (x1 : Option Nat) (x2 : Option Nat) (x3 : Option Nat) (x4 : Int32) (r : (Int32 × Hp)) (hf : f_L_law_387 G.2.2.2.2.2.2.1 G.2.2.2.2.2.2.2 k23 h x1 x2 x3 x4 = some r) : RJ G l (M_L_law hh) (some (vI r.1)) r.2 387 [(0, vX G.2.2.2.2.2.1), (1, vR x1), (2, vR x2), (3, vR x3), (4, vI x4)] [] h := by
  unfold f_L_law_387 at hf
  refine r_aload_n 1 dL_law_387 rfl ?_
  refine r_aload_x 0 dL_law_388 rfl ?_
  refine r_iload 4 dL_law_389 rfl ?_
  refine r_iconst (x := (1 : Int32)) dL_law_391 (by decide) ?_
  refine r_iadd dL_law_392 ?_
  obtain ⟨v393, e393, hf⟩ := ob hf
  refine r_sload dL_law_393 e393 ?_
  refine r_aload_x 0 dL_law_394 rfl ?_
  refine r_iload 4 dL_law_395 rfl ?_
  refine r_iconst (x := (2 : Int32)) dL_law_397 (by decide) ?_
  refine r_iadd dL_law_398 ?_
  obtain ⟨v399, e399, hf⟩ := ob hf
  refine r_sload dL_law_399 e399 ?_
  obtain ⟨a400, ea400, hf⟩ := ob hf
  obtain ⟨v400, e400, hf⟩ := ob hf
  refine r_callV (y := yX10_where) (ci := 10) (avs := [vI v393, vI v399]) dL_law_400 rfl kw_2_133 kw_2_134 kw_2_135 kw_1_1 kw_2_136 oky_X10_where ⟨Nat.le_of_ble_eq_true rfl, Nat.le_of_ble_eq_true rfl⟩ rfl (Nat.le_of_ble_eq_true rfl) ea400 (k_X10_where G l e400) ?_
  refine r_aload_n 2 dL_law_403 rfl ?_
  refine r_pc (pc' := 404) rfl ?_
  refine r_aload_x 0 dL_law_404 rfl ?_
  refine r_iload 4 dL_law_405 rfl ?_
  refine r_iconst (x := (1 : Int32)) dL_law_407 (by decide) ?_
  refine r_iadd dL_law_408 ?_
  obtain ⟨v409, e409, hf⟩ := ob hf
  refine r_sload dL_law_409 e409 ?_
  refine r_aload_x 0 dL_law_410 rfl ?_
  refine r_iload 4 dL_law_411 rfl ?_
  refine r_iconst (x := (2 : Int32)) dL_law_413 (by decide) ?_
  refine r_iadd dL_law_414 ?_
  obtain ⟨v415, e415, hf⟩ := ob hf
  refine r_sload dL_law_415 e415 ?_
  obtain ⟨a416, ea416, hf⟩ := ob hf
  obtain ⟨q416, e416, hf⟩ := ob hf
  refine r_callV (y := yX11_where) (ci := 11) (avs := [vI v409, vI v415]) dL_law_416 rfl kw_5_49 kw_5_50 kw_5_51 kw_1_5 kw_5_52 oky_X11_where ⟨Nat.le_of_ble_eq_true rfl, Nat.le_of_ble_eq_true rfl⟩ rfl (Nat.le_of_ble_eq_true rfl) ea416 (k_X11_where G l e416) ?_
  refine r_icmp_eq (tgt := 1172) dL_law_419 (by decide) (fun c419 => ?_) (fun c419 => ?_)
  · replace hf := (if_pos c419).symm.trans hf
    exact r_sub [0, 1, 2, 3, 4] rfl (t_L_law_1172 G l hfl hh k23 hk23 _ _ _ _ _ _ hf)
  · replace hf := (if_neg c419).symm.trans hf
    refine r_iconst (x := (0 : Int32)) dL_law_422 (by decide) ?_
    obtain ⟨z423, ez423, hf⟩ := ob hf
    have hf := Option.some.inj hf
    subst hf
    exact r_zret rfl dL_law_423 ez423
def f_L_law_424 (sL : Nat) (sxs : Nat → Int32) (k23 : Hp → (Option Nat) → (Option Nat) → (Option Nat) → Int32 → Option (Int32 × Hp)) (h : Hp) (x1 : Option Nat) (x2 : Option Nat) (x3 : Option Nat) (x4 : Int32) : Option (Int32 × Hp) :=
    (sI sL sxs (x4 + (1 : Int32))).bind fun v430 =>
    (rcv h x1 10).bind fun a431 =>
    (f_X10_letter h a431 v430).bind fun v431 =>
    (sI sL sxs (x4 + (1 : Int32))).bind fun v440 =>
    (rcv h x2 11).bind fun a441 =>
    (f_X11_letter h a441 v440).bind fun q441 =>
    if v431 = q441.1 then
      f_L_law_1172 sL sxs k23 q441.2 x1 x2 x3 x4
    else
      (okZ (0 : Int32)).bind fun z448 => some (z448, q441.2)
set_option maxRecDepth 100000 in
set_option maxHeartbeats 4000000 in
theorem t_L_law_424 (G : Gx) (l : Launch) (hfl : l.stackTraces = false) (hh : List (Nat × Nat × Nat × Nat)) (k23 : Hp → (Option Nat) → (Option Nat) → (Option Nat) → Int32 → Option (Int32 × Hp)) (hk23 : ∀ (h : Hp) (x1 : Option Nat) (x2 : Option Nat) (x3 : Option Nat) (x4 : Int32) (r : (Int32 × Hp)), k23 h x1 x2 x3 x4 = some r → RJ G l (M_L_law hh) (some (vI r.1)) r.2 23 [(0, vX G.2.2.2.2.2.1), (1, vR x1), (2, vR x2), (3, vR x3), (4, vI x4)] [] h) (h : Hp) (x1 : Option Nat) (x2 : Option Nat) (x3 : Option Nat) (x4 : Int32) (r : (Int32 × Hp)) (hf : f_L_law_424 G.2.2.2.2.2.2.1 G.2.2.2.2.2.2.2 k23 h x1 x2 x3 x4 = some r) : RJ G l (M_L_law hh) (some (vI r.1)) r.2 424 [(0, vX G.2.2.2.2.2.1), (1, vR x1), (2, vR x2), (3, vR x3), (4, vI x4)] [] h := by
  unfold f_L_law_424 at hf
  refine r_aload_n 1 dL_law_424 rfl ?_
  refine r_aload_x 0 dL_law_425 rfl ?_
  refine r_iload 4 dL_law_426 rfl ?_
  refine r_iconst (x := (1 : Int32)) dL_law_428 (by decide) ?_
  refine r_iadd dL_law_429 ?_
  obtain ⟨v430, e430, hf⟩ := ob hf
  refine r_sload dL_law_430 e430 ?_
  obtain ⟨a431, ea431, hf⟩ := ob hf
  obtain ⟨v431, e431, hf⟩ := ob hf
  refine r_callV (y := yX10_letter) (ci := 10) (avs := [vI v430]) dL_law_431 rfl kw_2_137 kw_2_138 kw_2_139 kw_1_1 kw_2_140 oky_X10_letter ⟨Nat.le_of_ble_eq_true rfl, Nat.le_of_ble_eq_true rfl⟩ rfl (Nat.le_of_ble_eq_true rfl) ea431 (k_X10_letter G l e431) ?_
  refine r_aload_n 2 dL_law_434 rfl ?_
  refine r_aload_x 0 dL_law_435 rfl ?_
  refine r_iload 4 dL_law_436 rfl ?_
  refine r_iconst (x := (1 : Int32)) dL_law_438 (by decide) ?_
  refine r_iadd dL_law_439 ?_
  obtain ⟨v440, e440, hf⟩ := ob hf
  refine r_sload dL_law_440 e440 ?_
  refine r_pc (pc' := 441) rfl ?_
  obtain ⟨a441, ea441, hf⟩ := ob hf
  obtain ⟨q441, e441, hf⟩ := ob hf
  refine r_callV (y := yX11_letter) (ci := 11) (avs := [vI v440]) dL_law_441 rfl kw_5_53 kw_5_54 kw_5_55 kw_1_5 kw_5_56 oky_X11_letter ⟨Nat.le_of_ble_eq_true rfl, Nat.le_of_ble_eq_true rfl⟩ rfl (Nat.le_of_ble_eq_true rfl) ea441 (k_X11_letter G l e441) ?_
  refine r_icmp_eq (tgt := 1172) dL_law_444 (by decide) (fun c444 => ?_) (fun c444 => ?_)
  · replace hf := (if_pos c444).symm.trans hf
    exact r_sub [0, 1, 2, 3, 4] rfl (t_L_law_1172 G l hfl hh k23 hk23 _ _ _ _ _ _ hf)
  · replace hf := (if_neg c444).symm.trans hf
    refine r_iconst (x := (0 : Int32)) dL_law_447 (by decide) ?_
    obtain ⟨z448, ez448, hf⟩ := ob hf
    have hf := Option.some.inj hf
    subst hf
    exact r_zret rfl dL_law_448 ez448
def f_L_law_449 (sL : Nat) (sxs : Nat → Int32) (k23 : Hp → (Option Nat) → (Option Nat) → (Option Nat) → Int32 → Option (Int32 × Hp)) (h : Hp) (x1 : Option Nat) (x2 : Option Nat) (x3 : Option Nat) (x4 : Int32) : Option (Int32 × Hp) :=
    (rcv h x1 10).bind fun a450 =>
    (f_X10_gaps h a450).bind fun v450 =>
    (rcv h x2 11).bind fun a454 =>
    (f_X11_gaps h a454).bind fun q454 =>
    if v450 = q454.1 then
      f_L_law_1172 sL sxs k23 q454.2 x1 x2 x3 x4
    else
      (okZ (0 : Int32)).bind fun z461 => some (z461, q454.2)
set_option maxRecDepth 100000 in
set_option maxHeartbeats 4000000 in
theorem t_L_law_449 (G : Gx) (l : Launch) (hfl : l.stackTraces = false) (hh : List (Nat × Nat × Nat × Nat)) (k23 : Hp → (Option Nat) → (Option Nat) → (Option Nat) → Int32 → Option (Int32 × Hp)) (hk23 : ∀ (h : Hp) (x1 : Option Nat) (x2 : Option Nat) (x3 : Option Nat) (x4 : Int32) (r : (Int32 × Hp)), k23 h x1 x2 x3 x4 = some r → RJ G l (M_L_law hh) (some (vI r.1)) r.2 23 [(0, vX G.2.2.2.2.2.1), (1, vR x1), (2, vR x2), (3, vR x3), (4, vI x4)] [] h) (h : Hp) (x1 : Option Nat) (x2 : Option Nat) (x3 : Option Nat) (x4 : Int32) (r : (Int32 × Hp)) (hf : f_L_law_449 G.2.2.2.2.2.2.1 G.2.2.2.2.2.2.2 k23 h x1 x2 x3 x4 = some r) : RJ G l (M_L_law hh) (some (vI r.1)) r.2 449 [(0, vX G.2.2.2.2.2.1), (1, vR x1), (2, vR x2), (3, vR x3), (4, vI x4)] [] h := by
  unfold f_L_law_449 at hf
  refine r_aload_n 1 dL_law_449 rfl ?_
  obtain ⟨a450, ea450, hf⟩ := ob hf
  obtain ⟨v450, e450, hf⟩ := ob hf
  refine r_callV (y := yX10_gaps) (ci := 10) (avs := []) dL_law_450 rfl kw_2_146 kw_2_147 kw_2_148 kw_1_1 kw_2_149 oky_X10_gaps ⟨Nat.le_of_ble_eq_true rfl, Nat.le_of_ble_eq_true rfl⟩ rfl (Nat.le_of_ble_eq_true rfl) ea450 (k_X10_gaps G l e450) ?_
  refine r_aload_n 2 dL_law_453 rfl ?_
  obtain ⟨a454, ea454, hf⟩ := ob hf
  obtain ⟨q454, e454, hf⟩ := ob hf
  refine r_callV (y := yX11_gaps) (ci := 11) (avs := []) dL_law_454 rfl kw_5_58 kw_5_59 kw_5_60 kw_1_5 kw_5_61 oky_X11_gaps ⟨Nat.le_of_ble_eq_true rfl, Nat.le_of_ble_eq_true rfl⟩ rfl (Nat.le_of_ble_eq_true rfl) ea454 (k_X11_gaps G l e454) ?_
  refine r_icmp_eq (tgt := 1172) dL_law_457 (by decide) (fun c457 => ?_) (fun c457 => ?_)
  · replace hf := (if_pos c457).symm.trans hf
    exact r_sub [0, 1, 2, 3, 4] rfl (t_L_law_1172 G l hfl hh k23 hk23 _ _ _ _ _ _ hf)
  · replace hf := (if_neg c457).symm.trans hf
    refine r_iconst (x := (0 : Int32)) dL_law_460 (by decide) ?_
    obtain ⟨z461, ez461, hf⟩ := ob hf
    have hf := Option.some.inj hf
    subst hf
    exact r_zret rfl dL_law_461 ez461
def f_L_law_462 (sL : Nat) (sxs : Nat → Int32) (k23 : Hp → (Option Nat) → (Option Nat) → (Option Nat) → Int32 → Option (Int32 × Hp)) (h : Hp) (x1 : Option Nat) (x2 : Option Nat) (x3 : Option Nat) (x4 : Int32) : Option (Int32 × Hp) :=
    (sI sL sxs (x4 + (1 : Int32))).bind fun v468 =>
    (sI sL sxs (x4 + (2 : Int32))).bind fun v474 =>
    (rcv h x1 10).bind fun a475 =>
    (f_X10_walk h a475 v468 v474).bind fun v475 =>
    (sI sL sxs (x4 + (1 : Int32))).bind fun v484 =>
    (sI sL sxs (x4 + (2 : Int32))).bind fun v490 =>
    (rcv h x2 11).bind fun a491 =>
    (f_X11_walk h a491 v484 v490).bind fun q491 =>
    if v475 = q491.1 then
      f_L_law_1172 sL sxs k23 q491.2 x1 x2 x3 x4
    else
      (okZ (0 : Int32)).bind fun z498 => some (z498, q491.2)
set_option maxRecDepth 100000 in
set_option maxHeartbeats 4000000 in
theorem t_L_law_462 (G : Gx) (l : Launch) (hfl : l.stackTraces = false) (hh : List (Nat × Nat × Nat × Nat)) (k23 : Hp → (Option Nat) → (Option Nat) → (Option Nat) → Int32 → Option (Int32 × Hp)) (hk23 : ∀ (h : Hp) (x1 : Option Nat) (x2 : Option Nat) (x3 : Option Nat) (x4 : Int32) (r : (Int32 × Hp)), k23 h x1 x2 x3 x4 = some r → RJ G l (M_L_law hh) (some (vI r.1)) r.2 23 [(0, vX G.2.2.2.2.2.1), (1, vR x1), (2, vR x2), (3, vR x3), (4, vI x4)] [] h) (h : Hp) (x1 : Option Nat) (x2 : Option Nat) (x3 : Option Nat) (x4 : Int32) (r : (Int32 × Hp)) (hf : f_L_law_462 G.2.2.2.2.2.2.1 G.2.2.2.2.2.2.2 k23 h x1 x2 x3 x4 = some r) : RJ G l (M_L_law hh) (some (vI r.1)) r.2 462 [(0, vX G.2.2.2.2.2.1), (1, vR x1), (2, vR x2), (3, vR x3), (4, vI x4)] [] h := by
  unfold f_L_law_462 at hf
  refine r_aload_n 1 dL_law_462 rfl ?_
  refine r_aload_x 0 dL_law_463 rfl ?_
  refine r_iload 4 dL_law_464 rfl ?_
  refine r_iconst (x := (1 : Int32)) dL_law_466 (by decide) ?_
  refine r_iadd dL_law_467 ?_
  obtain ⟨v468, e468, hf⟩ := ob hf
  refine r_sload dL_law_468 e468 ?_
  refine r_aload_x 0 dL_law_469 rfl ?_
  refine r_iload 4 dL_law_470 rfl ?_
  refine r_iconst (x := (2 : Int32)) dL_law_472 (by decide) ?_
  refine r_iadd dL_law_473 ?_
  obtain ⟨v474, e474, hf⟩ := ob hf
  refine r_sload dL_law_474 e474 ?_
  obtain ⟨a475, ea475, hf⟩ := ob hf
  obtain ⟨v475, e475, hf⟩ := ob hf
  refine r_callV (y := yX10_walk) (ci := 10) (avs := [vI v468, vI v474]) dL_law_475 rfl kw_2_156 kw_2_157 kw_2_158 kw_1_1 kw_2_159 oky_X10_walk ⟨Nat.le_of_ble_eq_true rfl, Nat.le_of_ble_eq_true rfl⟩ rfl (Nat.le_of_ble_eq_true rfl) ea475 (k_X10_walk G l e475) ?_
  refine r_aload_n 2 dL_law_478 rfl ?_
  refine r_pc (pc' := 479) rfl ?_
  refine r_aload_x 0 dL_law_479 rfl ?_
  refine r_iload 4 dL_law_480 rfl ?_
  refine r_iconst (x := (1 : Int32)) dL_law_482 (by decide) ?_
  refine r_iadd dL_law_483 ?_
  obtain ⟨v484, e484, hf⟩ := ob hf
  refine r_sload dL_law_484 e484 ?_
  refine r_aload_x 0 dL_law_485 rfl ?_
  refine r_iload 4 dL_law_486 rfl ?_
  refine r_iconst (x := (2 : Int32)) dL_law_488 (by decide) ?_
  refine r_iadd dL_law_489 ?_
  obtain ⟨v490, e490, hf⟩ := ob hf
  refine r_sload dL_law_490 e490 ?_
  obtain ⟨a491, ea491, hf⟩ := ob hf
  obtain ⟨q491, e491, hf⟩ := ob hf
  refine r_callV (y := yX11_walk) (ci := 11) (avs := [vI v484, vI v490]) dL_law_491 rfl kw_5_66 kw_5_67 kw_5_68 kw_1_5 kw_5_69 oky_X11_walk ⟨Nat.le_of_ble_eq_true rfl, Nat.le_of_ble_eq_true rfl⟩ rfl (Nat.le_of_ble_eq_true rfl) ea491 (k_X11_walk G l e491) ?_
  refine r_icmp_eq (tgt := 1172) dL_law_494 (by decide) (fun c494 => ?_) (fun c494 => ?_)
  · replace hf := (if_pos c494).symm.trans hf
    exact r_sub [0, 1, 2, 3, 4] rfl (t_L_law_1172 G l hfl hh k23 hk23 _ _ _ _ _ _ hf)
  · replace hf := (if_neg c494).symm.trans hf
    refine r_iconst (x := (0 : Int32)) dL_law_497 (by decide) ?_
    obtain ⟨z498, ez498, hf⟩ := ob hf
    have hf := Option.some.inj hf
    subst hf
    exact r_zret rfl dL_law_498 ez498
def f_L_law_499 (sL : Nat) (sxs : Nat → Int32) (k23 : Hp → (Option Nat) → (Option Nat) → (Option Nat) → Int32 → Option (Int32 × Hp)) (h : Hp) (x1 : Option Nat) (x2 : Option Nat) (x3 : Option Nat) (x4 : Int32) : Option (Int32 × Hp) :=
    (sI sL sxs (x4 + (1 : Int32))).bind fun v505 =>
    (sI sL sxs (x4 + (2 : Int32))).bind fun v511 =>
    (rcv h x1 10).bind fun a512 =>
    (f_X10_search h a512 v505 v511).bind fun v512 =>
    (sI sL sxs (x4 + (1 : Int32))).bind fun v521 =>
    (sI sL sxs (x4 + (2 : Int32))).bind fun v527 =>
    (rcv h x2 11).bind fun a528 =>
    (f_X11_search h a528 v521 v527).bind fun q528 =>
    if v512 = q528.1 then
      f_L_law_1172 sL sxs k23 q528.2 x1 x2 x3 x4
    else
      (okZ (0 : Int32)).bind fun z535 => some (z535, q528.2)
set_option maxRecDepth 100000 in
set_option maxHeartbeats 4000000 in
theorem t_L_law_499 (G : Gx) (l : Launch) (hfl : l.stackTraces = false) (hh : List (Nat × Nat × Nat × Nat)) (k23 : Hp → (Option Nat) → (Option Nat) → (Option Nat) → Int32 → Option (Int32 × Hp)) (hk23 : ∀ (h : Hp) (x1 : Option Nat) (x2 : Option Nat) (x3 : Option Nat) (x4 : Int32) (r : (Int32 × Hp)), k23 h x1 x2 x3 x4 = some r → RJ G l (M_L_law hh) (some (vI r.1)) r.2 23 [(0, vX G.2.2.2.2.2.1), (1, vR x1), (2, vR x2), (3, vR x3), (4, vI x4)] [] h) (h : Hp) (x1 : Option Nat) (x2 : Option Nat) (x3 : Option Nat) (x4 : Int32) (r : (Int32 × Hp)) (hf : f_L_law_499 G.2.2.2.2.2.2.1 G.2.2.2.2.2.2.2 k23 h x1 x2 x3 x4 = some r) : RJ G l (M_L_law hh) (some (vI r.1)) r.2 499 [(0, vX G.2.2.2.2.2.1), (1, vR x1), (2, vR x2), (3, vR x3), (4, vI x4)] [] h := by
  unfold f_L_law_499 at hf
  refine r_aload_n 1 dL_law_499 rfl ?_
  refine r_aload_x 0 dL_law_500 rfl ?_
  refine r_iload 4 dL_law_501 rfl ?_
  refine r_iconst (x := (1 : Int32)) dL_law_503 (by decide) ?_
  refine r_iadd dL_law_504 ?_
  obtain ⟨v505, e505, hf⟩ := ob hf
  refine r_sload dL_law_505 e505 ?_
  refine r_aload_x 0 dL_law_506 rfl ?_
  refine r_iload 4 dL_law_507 rfl ?_
  refine r_iconst (x := (2 : Int32)) dL_law_509 (by decide) ?_
  refine r_iadd dL_law_510 ?_
  obtain ⟨v511, e511, hf⟩ := ob hf
  refine r_sload dL_law_511 e511 ?_
  obtain ⟨a512, ea512, hf⟩ := ob hf
  obtain ⟨v512, e512, hf⟩ := ob hf
  refine r_callV (y := yX10_search) (ci := 10) (avs := [vI v505, vI v511]) dL_law_512 rfl kw_2_182 kw_2_183 kw_2_184 kw_1_1 kw_2_185 oky_X10_search ⟨Nat.le_of_ble_eq_true rfl, Nat.le_of_ble_eq_true rfl⟩ rfl (Nat.le_of_ble_eq_true rfl) ea512 (k_X10_search G l e512) ?_
  refine r_aload_n 2 dL_law_515 rfl ?_
  refine r_pc (pc' := 516) rfl ?_
  refine r_aload_x 0 dL_law_516 rfl ?_
  refine r_iload 4 dL_law_517 rfl ?_
  refine r_iconst (x := (1 : Int32)) dL_law_519 (by decide) ?_
  refine r_iadd dL_law_520 ?_
  obtain ⟨v521, e521, hf⟩ := ob hf
  refine r_sload dL_law_521 e521 ?_
  refine r_aload_x 0 dL_law_522 rfl ?_
  refine r_iload 4 dL_law_523 rfl ?_
  refine r_iconst (x := (2 : Int32)) dL_law_525 (by decide) ?_
  refine r_iadd dL_law_526 ?_
  obtain ⟨v527, e527, hf⟩ := ob hf
  refine r_sload dL_law_527 e527 ?_
  obtain ⟨a528, ea528, hf⟩ := ob hf
  obtain ⟨q528, e528, hf⟩ := ob hf
  refine r_callV (y := yX11_search) (ci := 11) (avs := [vI v521, vI v527]) dL_law_528 rfl kw_5_78 kw_5_79 kw_5_80 kw_1_5 kw_5_81 oky_X11_search ⟨Nat.le_of_ble_eq_true rfl, Nat.le_of_ble_eq_true rfl⟩ rfl (Nat.le_of_ble_eq_true rfl) ea528 (k_X11_search G l e528) ?_
  refine r_icmp_eq (tgt := 1172) dL_law_531 (by decide) (fun c531 => ?_) (fun c531 => ?_)
  · replace hf := (if_pos c531).symm.trans hf
    exact r_sub [0, 1, 2, 3, 4] rfl (t_L_law_1172 G l hfl hh k23 hk23 _ _ _ _ _ _ hf)
  · replace hf := (if_neg c531).symm.trans hf
    refine r_iconst (x := (0 : Int32)) dL_law_534 (by decide) ?_
    obtain ⟨z535, ez535, hf⟩ := ob hf
    have hf := Option.some.inj hf
    subst hf
    exact r_zret rfl dL_law_535 ez535
def f_L_law_536 (sL : Nat) (sxs : Nat → Int32) (k23 : Hp → (Option Nat) → (Option Nat) → (Option Nat) → Int32 → Option (Int32 × Hp)) (h : Hp) (x1 : Option Nat) (x2 : Option Nat) (x3 : Option Nat) (x4 : Int32) : Option (Int32 × Hp) :=
    (rcv h x1 10).bind fun a537 =>
    (f_X10_rise h a537).bind fun q537 =>
    (rcv q537.2 x2 11).bind fun a541 =>
    (f_X11_rise q537.2 a541).bind fun q541 =>
    if q537.1 = q541.1 then
      f_L_law_1172 sL sxs k23 q541.2 x1 x2 x3 x4
    else
      (okZ (0 : Int32)).bind fun z548 => some (z548, q541.2)
set_option maxRecDepth 100000 in
set_option maxHeartbeats 4000000 in
theorem t_L_law_536 (G : Gx) (l : Launch) (hfl : l.stackTraces = false) (hh : List (Nat × Nat × Nat × Nat)) (k23 : Hp → (Option Nat) → (Option Nat) → (Option Nat) → Int32 → Option (Int32 × Hp)) (hk23 : ∀ (h : Hp) (x1 : Option Nat) (x2 : Option Nat) (x3 : Option Nat) (x4 : Int32) (r : (Int32 × Hp)), k23 h x1 x2 x3 x4 = some r → RJ G l (M_L_law hh) (some (vI r.1)) r.2 23 [(0, vX G.2.2.2.2.2.1), (1, vR x1), (2, vR x2), (3, vR x3), (4, vI x4)] [] h) (h : Hp) (x1 : Option Nat) (x2 : Option Nat) (x3 : Option Nat) (x4 : Int32) (r : (Int32 × Hp)) (hf : f_L_law_536 G.2.2.2.2.2.2.1 G.2.2.2.2.2.2.2 k23 h x1 x2 x3 x4 = some r) : RJ G l (M_L_law hh) (some (vI r.1)) r.2 536 [(0, vX G.2.2.2.2.2.1), (1, vR x1), (2, vR x2), (3, vR x3), (4, vI x4)] [] h := by
  unfold f_L_law_536 at hf
  refine r_aload_n 1 dL_law_536 rfl ?_
  obtain ⟨a537, ea537, hf⟩ := ob hf
  obtain ⟨q537, e537, hf⟩ := ob hf
  refine r_callV (y := yX10_rise) (ci := 10) (avs := []) dL_law_537 rfl kw_2_186 kw_2_187 kw_2_188 kw_1_1 kw_2_189 oky_X10_rise ⟨Nat.le_of_ble_eq_true rfl, Nat.le_of_ble_eq_true rfl⟩ rfl (Nat.le_of_ble_eq_true rfl) ea537 (k_X10_rise G l e537) ?_
  refine r_aload_n 2 dL_law_540 rfl ?_
  obtain ⟨a541, ea541, hf⟩ := ob hf
  obtain ⟨q541, e541, hf⟩ := ob hf
  refine r_callV (y := yX11_rise) (ci := 11) (avs := []) dL_law_541 rfl kw_5_82 kw_5_83 kw_5_84 kw_1_5 kw_5_85 oky_X11_rise ⟨Nat.le_of_ble_eq_true rfl, Nat.le_of_ble_eq_true rfl⟩ rfl (Nat.le_of_ble_eq_true rfl) ea541 (k_X11_rise G l e541) ?_
  refine r_icmp_eq (tgt := 1172) dL_law_544 (by decide) (fun c544 => ?_) (fun c544 => ?_)
  · replace hf := (if_pos c544).symm.trans hf
    exact r_sub [0, 1, 2, 3, 4] rfl (t_L_law_1172 G l hfl hh k23 hk23 _ _ _ _ _ _ hf)
  · replace hf := (if_neg c544).symm.trans hf
    refine r_iconst (x := (0 : Int32)) dL_law_547 (by decide) ?_
    obtain ⟨z548, ez548, hf⟩ := ob hf
    have hf := Option.some.inj hf
    subst hf
    exact r_zret rfl dL_law_548 ez548
def f_L_law_549 (sL : Nat) (sxs : Nat → Int32) (k23 : Hp → (Option Nat) → (Option Nat) → (Option Nat) → Int32 → Option (Int32 × Hp)) (h : Hp) (x1 : Option Nat) (x2 : Option Nat) (x3 : Option Nat) (x4 : Int32) : Option (Int32 × Hp) :=
    (rcv h x1 10).bind fun a550 =>
    (f_X10_falls h a550).bind fun v550 =>
    (rcv h x2 11).bind fun a554 =>
    (f_X11_falls h a554).bind fun q554 =>
    if v550 = q554.1 then
      f_L_law_1172 sL sxs k23 q554.2 x1 x2 x3 x4
    else
      (okZ (0 : Int32)).bind fun z561 => some (z561, q554.2)
set_option maxRecDepth 100000 in
set_option maxHeartbeats 4000000 in
theorem t_L_law_549 (G : Gx) (l : Launch) (hfl : l.stackTraces = false) (hh : List (Nat × Nat × Nat × Nat)) (k23 : Hp → (Option Nat) → (Option Nat) → (Option Nat) → Int32 → Option (Int32 × Hp)) (hk23 : ∀ (h : Hp) (x1 : Option Nat) (x2 : Option Nat) (x3 : Option Nat) (x4 : Int32) (r : (Int32 × Hp)), k23 h x1 x2 x3 x4 = some r → RJ G l (M_L_law hh) (some (vI r.1)) r.2 23 [(0, vX G.2.2.2.2.2.1), (1, vR x1), (2, vR x2), (3, vR x3), (4, vI x4)] [] h) (h : Hp) (x1 : Option Nat) (x2 : Option Nat) (x3 : Option Nat) (x4 : Int32) (r : (Int32 × Hp)) (hf : f_L_law_549 G.2.2.2.2.2.2.1 G.2.2.2.2.2.2.2 k23 h x1 x2 x3 x4 = some r) : RJ G l (M_L_law hh) (some (vI r.1)) r.2 549 [(0, vX G.2.2.2.2.2.1), (1, vR x1), (2, vR x2), (3, vR x3), (4, vI x4)] [] h := by
  unfold f_L_law_549 at hf
  refine r_aload_n 1 dL_law_549 rfl ?_
  obtain ⟨a550, ea550, hf⟩ := ob hf
  obtain ⟨v550, e550, hf⟩ := ob hf
  refine r_callV (y := yX10_falls) (ci := 10) (avs := []) dL_law_550 rfl kw_2_198 kw_2_199 kw_2_200 kw_1_1 kw_2_201 oky_X10_falls ⟨Nat.le_of_ble_eq_true rfl, Nat.le_of_ble_eq_true rfl⟩ rfl (Nat.le_of_ble_eq_true rfl) ea550 (k_X10_falls G l e550) ?_
  refine r_aload_n 2 dL_law_553 rfl ?_
  obtain ⟨a554, ea554, hf⟩ := ob hf
  obtain ⟨q554, e554, hf⟩ := ob hf
  refine r_callV (y := yX11_falls) (ci := 11) (avs := []) dL_law_554 rfl kw_5_90 kw_5_91 kw_5_92 kw_1_5 kw_5_93 oky_X11_falls ⟨Nat.le_of_ble_eq_true rfl, Nat.le_of_ble_eq_true rfl⟩ rfl (Nat.le_of_ble_eq_true rfl) ea554 (k_X11_falls G l e554) ?_
  refine r_icmp_eq (tgt := 1172) dL_law_557 (by decide) (fun c557 => ?_) (fun c557 => ?_)
  · replace hf := (if_pos c557).symm.trans hf
    exact r_sub [0, 1, 2, 3, 4] rfl (t_L_law_1172 G l hfl hh k23 hk23 _ _ _ _ _ _ hf)
  · replace hf := (if_neg c557).symm.trans hf
    refine r_iconst (x := (0 : Int32)) dL_law_560 (by decide) ?_
    obtain ⟨z561, ez561, hf⟩ := ob hf
    have hf := Option.some.inj hf
    subst hf
    exact r_zret rfl dL_law_561 ez561
def f_L_law_562 (sL : Nat) (sxs : Nat → Int32) (k23 : Hp → (Option Nat) → (Option Nat) → (Option Nat) → Int32 → Option (Int32 × Hp)) (h : Hp) (x1 : Option Nat) (x2 : Option Nat) (x3 : Option Nat) (x4 : Int32) : Option (Int32 × Hp) :=
    (sI sL sxs (x4 + (1 : Int32))).bind fun v568 =>
    (sI sL sxs (x4 + (2 : Int32))).bind fun v574 =>
    (sI sL sxs (x4 + (3 : Int32))).bind fun v580 =>
    (rcv h x1 10).bind fun a581 =>
    (f_X10_byLaw h a581 v568 v574 v580).bind fun q581 =>
    (sI sL sxs (x4 + (1 : Int32))).bind fun v590 =>
    (sI sL sxs (x4 + (2 : Int32))).bind fun v596 =>
    (sI sL sxs (x4 + (3 : Int32))).bind fun v602 =>
    (rcv q581.2 x2 11).bind fun a603 =>
    (f_X11_byLaw q581.2 a603 v590 v596 v602).bind fun q603 =>
    if q581.1 = q603.1 then
      f_L_law_1172 sL sxs k23 q603.2 x1 x2 x3 x4
    else
      (okZ (0 : Int32)).bind fun z610 => some (z610, q603.2)
set_option maxRecDepth 100000 in
set_option maxHeartbeats 4000000 in
theorem t_L_law_562 (G : Gx) (l : Launch) (hfl : l.stackTraces = false) (hh : List (Nat × Nat × Nat × Nat)) (k23 : Hp → (Option Nat) → (Option Nat) → (Option Nat) → Int32 → Option (Int32 × Hp)) (hk23 : ∀ (h : Hp) (x1 : Option Nat) (x2 : Option Nat) (x3 : Option Nat) (x4 : Int32) (r : (Int32 × Hp)), k23 h x1 x2 x3 x4 = some r → RJ G l (M_L_law hh) (some (vI r.1)) r.2 23 [(0, vX G.2.2.2.2.2.1), (1, vR x1), (2, vR x2), (3, vR x3), (4, vI x4)] [] h) (h : Hp) (x1 : Option Nat) (x2 : Option Nat) (x3 : Option Nat) (x4 : Int32) (r : (Int32 × Hp)) (hf : f_L_law_562 G.2.2.2.2.2.2.1 G.2.2.2.2.2.2.2 k23 h x1 x2 x3 x4 = some r) : RJ G l (M_L_law hh) (some (vI r.1)) r.2 562 [(0, vX G.2.2.2.2.2.1), (1, vR x1), (2, vR x2), (3, vR x3), (4, vI x4)] [] h := by
  unfold f_L_law_562 at hf
  refine r_aload_n 1 dL_law_562 rfl ?_
  refine r_aload_x 0 dL_law_563 rfl ?_
  refine r_iload 4 dL_law_564 rfl ?_
  refine r_iconst (x := (1 : Int32)) dL_law_566 (by decide) ?_
  refine r_iadd dL_law_567 ?_
  obtain ⟨v568, e568, hf⟩ := ob hf
  refine r_sload dL_law_568 e568 ?_
  refine r_aload_x 0 dL_law_569 rfl ?_
  refine r_iload 4 dL_law_570 rfl ?_
  refine r_iconst (x := (2 : Int32)) dL_law_572 (by decide) ?_
  refine r_iadd dL_law_573 ?_
  obtain ⟨v574, e574, hf⟩ := ob hf
  refine r_sload dL_law_574 e574 ?_
  refine r_aload_x 0 dL_law_575 rfl ?_
  refine r_iload 4 dL_law_576 rfl ?_
  refine r_pc (pc' := 578) rfl ?_
  refine r_iconst (x := (3 : Int32)) dL_law_578 (by decide) ?_
  refine r_iadd dL_law_579 ?_
  obtain ⟨v580, e580, hf⟩ := ob hf
  refine r_sload dL_law_580 e580 ?_
  obtain ⟨a581, ea581, hf⟩ := ob hf
  obtain ⟨q581, e581, hf⟩ := ob hf
  refine r_callV (y := yX10_byLaw) (ci := 10) (avs := [vI v568, vI v574, vI v580]) dL_law_581 rfl kw_2_206 kw_2_207 kw_2_208 kw_1_1 kw_2_209 oky_X10_byLaw ⟨Nat.le_of_ble_eq_true rfl, Nat.le_of_ble_eq_true rfl⟩ rfl (Nat.le_of_ble_eq_true rfl) ea581 (k_X10_byLaw G l e581) ?_
  refine r_aload_n 2 dL_law_584 rfl ?_
  refine r_aload_x 0 dL_law_585 rfl ?_
  refine r_iload 4 dL_law_586 rfl ?_
  refine r_iconst (x := (1 : Int32)) dL_law_588 (by decide) ?_
  refine r_iadd dL_law_589 ?_
  obtain ⟨v590, e590, hf⟩ := ob hf
  refine r_sload dL_law_590 e590 ?_
  refine r_aload_x 0 dL_law_591 rfl ?_
  refine r_iload 4 dL_law_592 rfl ?_
  refine r_iconst (x := (2 : Int32)) dL_law_594 (by decide) ?_
  refine r_iadd dL_law_595 ?_
  refine r_pc (pc' := 596) rfl ?_
  obtain ⟨v596, e596, hf⟩ := ob hf
  refine r_sload dL_law_596 e596 ?_
  refine r_aload_x 0 dL_law_597 rfl ?_
  refine r_iload 4 dL_law_598 rfl ?_
  refine r_iconst (x := (3 : Int32)) dL_law_600 (by decide) ?_
  refine r_iadd dL_law_601 ?_
  obtain ⟨v602, e602, hf⟩ := ob hf
  refine r_sload dL_law_602 e602 ?_
  obtain ⟨a603, ea603, hf⟩ := ob hf
  obtain ⟨q603, e603, hf⟩ := ob hf
  refine r_callV (y := yX11_byLaw) (ci := 11) (avs := [vI v590, vI v596, vI v602]) dL_law_603 rfl kw_5_94 kw_5_95 kw_5_96 kw_1_5 kw_5_97 oky_X11_byLaw ⟨Nat.le_of_ble_eq_true rfl, Nat.le_of_ble_eq_true rfl⟩ rfl (Nat.le_of_ble_eq_true rfl) ea603 (k_X11_byLaw G l e603) ?_
  refine r_icmp_eq (tgt := 1172) dL_law_606 (by decide) (fun c606 => ?_) (fun c606 => ?_)
  · replace hf := (if_pos c606).symm.trans hf
    exact r_sub [0, 1, 2, 3, 4] rfl (t_L_law_1172 G l hfl hh k23 hk23 _ _ _ _ _ _ hf)
  · replace hf := (if_neg c606).symm.trans hf
    refine r_iconst (x := (0 : Int32)) dL_law_609 (by decide) ?_
    obtain ⟨z610, ez610, hf⟩ := ob hf
    have hf := Option.some.inj hf
    subst hf
    exact r_zret rfl dL_law_610 ez610
def f_L_law_611 (sL : Nat) (sxs : Nat → Int32) (k23 : Hp → (Option Nat) → (Option Nat) → (Option Nat) → Int32 → Option (Int32 × Hp)) (h : Hp) (x1 : Option Nat) (x2 : Option Nat) (x3 : Option Nat) (x4 : Int32) : Option (Int32 × Hp) :=
    (sI sL sxs (x4 + (1 : Int32))).bind fun v617 =>
    (rcv h x1 10).bind fun a618 =>
    (f_X10_laws h a618 v617).bind fun q618 =>
    (sI sL sxs (x4 + (1 : Int32))).bind fun v627 =>
    (rcv q618.2 x2 11).bind fun a628 =>
    (f_X11_laws q618.2 a628 v627).bind fun q628 =>
    if q618.1 = q628.1 then
      f_L_law_1172 sL sxs k23 q628.2 x1 x2 x3 x4
    else
      (okZ (0 : Int32)).bind fun z635 => some (z635, q628.2)
set_option maxRecDepth 100000 in
set_option maxHeartbeats 4000000 in
theorem t_L_law_611 (G : Gx) (l : Launch) (hfl : l.stackTraces = false) (hh : List (Nat × Nat × Nat × Nat)) (k23 : Hp → (Option Nat) → (Option Nat) → (Option Nat) → Int32 → Option (Int32 × Hp)) (hk23 : ∀ (h : Hp) (x1 : Option Nat) (x2 : Option Nat) (x3 : Option Nat) (x4 : Int32) (r : (Int32 × Hp)), k23 h x1 x2 x3 x4 = some r → RJ G l (M_L_law hh) (some (vI r.1)) r.2 23 [(0, vX G.2.2.2.2.2.1), (1, vR x1), (2, vR x2), (3, vR x3), (4, vI x4)] [] h) (h : Hp) (x1 : Option Nat) (x2 : Option Nat) (x3 : Option Nat) (x4 : Int32) (r : (Int32 × Hp)) (hf : f_L_law_611 G.2.2.2.2.2.2.1 G.2.2.2.2.2.2.2 k23 h x1 x2 x3 x4 = some r) : RJ G l (M_L_law hh) (some (vI r.1)) r.2 611 [(0, vX G.2.2.2.2.2.1), (1, vR x1), (2, vR x2), (3, vR x3), (4, vI x4)] [] h := by
  unfold f_L_law_611 at hf
  refine r_aload_n 1 dL_law_611 rfl ?_
  refine r_aload_x 0 dL_law_612 rfl ?_
  refine r_iload 4 dL_law_613 rfl ?_
  refine r_iconst (x := (1 : Int32)) dL_law_615 (by decide) ?_
  refine r_iadd dL_law_616 ?_
  obtain ⟨v617, e617, hf⟩ := ob hf
  refine r_sload dL_law_617 e617 ?_
  obtain ⟨a618, ea618, hf⟩ := ob hf
  obtain ⟨q618, e618, hf⟩ := ob hf
  refine r_callV (y := yX10_laws) (ci := 10) (avs := [vI v617]) dL_law_618 rfl kw_2_223 kw_2_224 kw_2_225 kw_1_1 kw_2_226 oky_X10_laws ⟨Nat.le_of_ble_eq_true rfl, Nat.le_of_ble_eq_true rfl⟩ rfl (Nat.le_of_ble_eq_true rfl) ea618 (k_X10_laws G l e618) ?_
  refine r_aload_n 2 dL_law_621 rfl ?_
  refine r_aload_x 0 dL_law_622 rfl ?_
  refine r_iload 4 dL_law_623 rfl ?_
  refine r_iconst (x := (1 : Int32)) dL_law_625 (by decide) ?_
  refine r_iadd dL_law_626 ?_
  obtain ⟨v627, e627, hf⟩ := ob hf
  refine r_sload dL_law_627 e627 ?_
  refine r_pc (pc' := 628) rfl ?_
  obtain ⟨a628, ea628, hf⟩ := ob hf
  obtain ⟨q628, e628, hf⟩ := ob hf
  refine r_callV (y := yX11_laws) (ci := 11) (avs := [vI v627]) dL_law_628 rfl kw_5_106 kw_5_107 kw_5_108 kw_1_5 kw_5_109 oky_X11_laws ⟨Nat.le_of_ble_eq_true rfl, Nat.le_of_ble_eq_true rfl⟩ rfl (Nat.le_of_ble_eq_true rfl) ea628 (k_X11_laws G l e628) ?_
  refine r_icmp_eq (tgt := 1172) dL_law_631 (by decide) (fun c631 => ?_) (fun c631 => ?_)
  · replace hf := (if_pos c631).symm.trans hf
    exact r_sub [0, 1, 2, 3, 4] rfl (t_L_law_1172 G l hfl hh k23 hk23 _ _ _ _ _ _ hf)
  · replace hf := (if_neg c631).symm.trans hf
    refine r_iconst (x := (0 : Int32)) dL_law_634 (by decide) ?_
    obtain ⟨z635, ez635, hf⟩ := ob hf
    have hf := Option.some.inj hf
    subst hf
    exact r_zret rfl dL_law_635 ez635
def f_L_law_636 (sL : Nat) (sxs : Nat → Int32) (k23 : Hp → (Option Nat) → (Option Nat) → (Option Nat) → Int32 → Option (Int32 × Hp)) (h : Hp) (x1 : Option Nat) (x2 : Option Nat) (x3 : Option Nat) (x4 : Int32) : Option (Int32 × Hp) :=
    (sI sL sxs (x4 + (1 : Int32))).bind fun v642 =>
    (rcv h x1 10).bind fun a643 =>
    (f_X10_orders h a643 v642).bind fun q643 =>
    (sI sL sxs (x4 + (1 : Int32))).bind fun v652 =>
    (rcv q643.2 x2 11).bind fun a653 =>
    (f_X11_orders q643.2 a653 v652).bind fun q653 =>
    if q643.1 = q653.1 then
      f_L_law_1172 sL sxs k23 q653.2 x1 x2 x3 x4
    else
      (okZ (0 : Int32)).bind fun z660 => some (z660, q653.2)
set_option maxRecDepth 100000 in
set_option maxHeartbeats 4000000 in
theorem t_L_law_636 (G : Gx) (l : Launch) (hfl : l.stackTraces = false) (hh : List (Nat × Nat × Nat × Nat)) (k23 : Hp → (Option Nat) → (Option Nat) → (Option Nat) → Int32 → Option (Int32 × Hp)) (hk23 : ∀ (h : Hp) (x1 : Option Nat) (x2 : Option Nat) (x3 : Option Nat) (x4 : Int32) (r : (Int32 × Hp)), k23 h x1 x2 x3 x4 = some r → RJ G l (M_L_law hh) (some (vI r.1)) r.2 23 [(0, vX G.2.2.2.2.2.1), (1, vR x1), (2, vR x2), (3, vR x3), (4, vI x4)] [] h) (h : Hp) (x1 : Option Nat) (x2 : Option Nat) (x3 : Option Nat) (x4 : Int32) (r : (Int32 × Hp)) (hf : f_L_law_636 G.2.2.2.2.2.2.1 G.2.2.2.2.2.2.2 k23 h x1 x2 x3 x4 = some r) : RJ G l (M_L_law hh) (some (vI r.1)) r.2 636 [(0, vX G.2.2.2.2.2.1), (1, vR x1), (2, vR x2), (3, vR x3), (4, vI x4)] [] h := by
  unfold f_L_law_636 at hf
  refine r_aload_n 1 dL_law_636 rfl ?_
  refine r_aload_x 0 dL_law_637 rfl ?_
  refine r_iload 4 dL_law_638 rfl ?_
  refine r_iconst (x := (1 : Int32)) dL_law_640 (by decide) ?_
  refine r_iadd dL_law_641 ?_
  obtain ⟨v642, e642, hf⟩ := ob hf
  refine r_sload dL_law_642 e642 ?_
  obtain ⟨a643, ea643, hf⟩ := ob hf
  obtain ⟨q643, e643, hf⟩ := ob hf
  refine r_callV (y := yX10_orders) (ci := 10) (avs := [vI v642]) dL_law_643 rfl kw_2_231 kw_2_232 kw_2_233 kw_1_1 kw_2_234 oky_X10_orders ⟨Nat.le_of_ble_eq_true rfl, Nat.le_of_ble_eq_true rfl⟩ rfl (Nat.le_of_ble_eq_true rfl) ea643 (k_X10_orders G l e643) ?_
  refine r_aload_n 2 dL_law_646 rfl ?_
  refine r_aload_x 0 dL_law_647 rfl ?_
  refine r_iload 4 dL_law_648 rfl ?_
  refine r_iconst (x := (1 : Int32)) dL_law_650 (by decide) ?_
  refine r_iadd dL_law_651 ?_
  obtain ⟨v652, e652, hf⟩ := ob hf
  refine r_sload dL_law_652 e652 ?_
  refine r_pc (pc' := 653) rfl ?_
  obtain ⟨a653, ea653, hf⟩ := ob hf
  obtain ⟨q653, e653, hf⟩ := ob hf
  refine r_callV (y := yX11_orders) (ci := 11) (avs := [vI v652]) dL_law_653 rfl kw_5_114 kw_5_115 kw_5_116 kw_1_5 kw_5_117 oky_X11_orders ⟨Nat.le_of_ble_eq_true rfl, Nat.le_of_ble_eq_true rfl⟩ rfl (Nat.le_of_ble_eq_true rfl) ea653 (k_X11_orders G l e653) ?_
  refine r_icmp_eq (tgt := 1172) dL_law_656 (by decide) (fun c656 => ?_) (fun c656 => ?_)
  · replace hf := (if_pos c656).symm.trans hf
    exact r_sub [0, 1, 2, 3, 4] rfl (t_L_law_1172 G l hfl hh k23 hk23 _ _ _ _ _ _ hf)
  · replace hf := (if_neg c656).symm.trans hf
    refine r_iconst (x := (0 : Int32)) dL_law_659 (by decide) ?_
    obtain ⟨z660, ez660, hf⟩ := ob hf
    have hf := Option.some.inj hf
    subst hf
    exact r_zret rfl dL_law_660 ez660
def f_L_law_661 (sL : Nat) (sxs : Nat → Int32) (k23 : Hp → (Option Nat) → (Option Nat) → (Option Nat) → Int32 → Option (Int32 × Hp)) (h : Hp) (x1 : Option Nat) (x2 : Option Nat) (x3 : Option Nat) (x4 : Int32) : Option (Int32 × Hp) :=
    (sI sL sxs (x4 + (1 : Int32))).bind fun v667 =>
    (sI sL sxs (x4 + (2 : Int32))).bind fun v673 =>
    (rcv h x1 10).bind fun a674 =>
    (f_X10_joined h a674 v667 v673).bind fun v674 =>
    (sI sL sxs (x4 + (1 : Int32))).bind fun v683 =>
    (sI sL sxs (x4 + (2 : Int32))).bind fun v689 =>
    (rcv h x2 11).bind fun a690 =>
    (f_X11_joined h a690 v683 v689).bind fun q690 =>
    if v674 = q690.1 then
      f_L_law_1172 sL sxs k23 q690.2 x1 x2 x3 x4
    else
      (okZ (0 : Int32)).bind fun z697 => some (z697, q690.2)
set_option maxRecDepth 100000 in
set_option maxHeartbeats 4000000 in
theorem t_L_law_661 (G : Gx) (l : Launch) (hfl : l.stackTraces = false) (hh : List (Nat × Nat × Nat × Nat)) (k23 : Hp → (Option Nat) → (Option Nat) → (Option Nat) → Int32 → Option (Int32 × Hp)) (hk23 : ∀ (h : Hp) (x1 : Option Nat) (x2 : Option Nat) (x3 : Option Nat) (x4 : Int32) (r : (Int32 × Hp)), k23 h x1 x2 x3 x4 = some r → RJ G l (M_L_law hh) (some (vI r.1)) r.2 23 [(0, vX G.2.2.2.2.2.1), (1, vR x1), (2, vR x2), (3, vR x3), (4, vI x4)] [] h) (h : Hp) (x1 : Option Nat) (x2 : Option Nat) (x3 : Option Nat) (x4 : Int32) (r : (Int32 × Hp)) (hf : f_L_law_661 G.2.2.2.2.2.2.1 G.2.2.2.2.2.2.2 k23 h x1 x2 x3 x4 = some r) : RJ G l (M_L_law hh) (some (vI r.1)) r.2 661 [(0, vX G.2.2.2.2.2.1), (1, vR x1), (2, vR x2), (3, vR x3), (4, vI x4)] [] h := by
  unfold f_L_law_661 at hf
  refine r_aload_n 1 dL_law_661 rfl ?_
  refine r_aload_x 0 dL_law_662 rfl ?_
  refine r_iload 4 dL_law_663 rfl ?_
  refine r_iconst (x := (1 : Int32)) dL_law_665 (by decide) ?_
  refine r_iadd dL_law_666 ?_
  obtain ⟨v667, e667, hf⟩ := ob hf
  refine r_sload dL_law_667 e667 ?_
  refine r_aload_x 0 dL_law_668 rfl ?_
  refine r_iload 4 dL_law_669 rfl ?_
  refine r_iconst (x := (2 : Int32)) dL_law_671 (by decide) ?_
  refine r_iadd dL_law_672 ?_
  obtain ⟨v673, e673, hf⟩ := ob hf
  refine r_sload dL_law_673 e673 ?_
  obtain ⟨a674, ea674, hf⟩ := ob hf
  obtain ⟨v674, e674, hf⟩ := ob hf
  refine r_callV (y := yX10_joined) (ci := 10) (avs := [vI v667, vI v673]) dL_law_674 rfl kw_3_16 kw_3_17 kw_3_18 kw_1_1 kw_3_19 oky_X10_joined ⟨Nat.le_of_ble_eq_true rfl, Nat.le_of_ble_eq_true rfl⟩ rfl (Nat.le_of_ble_eq_true rfl) ea674 (k_X10_joined G l e674) ?_
  refine r_aload_n 2 dL_law_677 rfl ?_
  refine r_pc (pc' := 678) rfl ?_
  refine r_aload_x 0 dL_law_678 rfl ?_
  refine r_iload 4 dL_law_679 rfl ?_
  refine r_iconst (x := (1 : Int32)) dL_law_681 (by decide) ?_
  refine r_iadd dL_law_682 ?_
  obtain ⟨v683, e683, hf⟩ := ob hf
  refine r_sload dL_law_683 e683 ?_
  refine r_aload_x 0 dL_law_684 rfl ?_
  refine r_iload 4 dL_law_685 rfl ?_
  refine r_iconst (x := (2 : Int32)) dL_law_687 (by decide) ?_
  refine r_iadd dL_law_688 ?_
  obtain ⟨v689, e689, hf⟩ := ob hf
  refine r_sload dL_law_689 e689 ?_
  obtain ⟨a690, ea690, hf⟩ := ob hf
  obtain ⟨q690, e690, hf⟩ := ob hf
  refine r_callV (y := yX11_joined) (ci := 11) (avs := [vI v683, vI v689]) dL_law_690 rfl kw_5_126 kw_5_127 kw_5_128 kw_1_5 kw_5_129 oky_X11_joined ⟨Nat.le_of_ble_eq_true rfl, Nat.le_of_ble_eq_true rfl⟩ rfl (Nat.le_of_ble_eq_true rfl) ea690 (k_X11_joined G l e690) ?_
  refine r_icmp_eq (tgt := 1172) dL_law_693 (by decide) (fun c693 => ?_) (fun c693 => ?_)
  · replace hf := (if_pos c693).symm.trans hf
    exact r_sub [0, 1, 2, 3, 4] rfl (t_L_law_1172 G l hfl hh k23 hk23 _ _ _ _ _ _ hf)
  · replace hf := (if_neg c693).symm.trans hf
    refine r_iconst (x := (0 : Int32)) dL_law_696 (by decide) ?_
    obtain ⟨z697, ez697, hf⟩ := ob hf
    have hf := Option.some.inj hf
    subst hf
    exact r_zret rfl dL_law_697 ez697
def f_L_law_698 (sL : Nat) (sxs : Nat → Int32) (k23 : Hp → (Option Nat) → (Option Nat) → (Option Nat) → Int32 → Option (Int32 × Hp)) (h : Hp) (x1 : Option Nat) (x2 : Option Nat) (x3 : Option Nat) (x4 : Int32) : Option (Int32 × Hp) :=
    (sI sL sxs (x4 + (1 : Int32))).bind fun v704 =>
    (sI sL sxs (x4 + (2 : Int32))).bind fun v710 =>
    (sI sL sxs (x4 + (3 : Int32))).bind fun v716 =>
    (rcv h x1 10).bind fun a717 =>
    (f_X10_seeded h a717 v704 v710 v716).bind fun q717 =>
    (sI sL sxs (x4 + (1 : Int32))).bind fun v726 =>
    (sI sL sxs (x4 + (2 : Int32))).bind fun v732 =>
    (sI sL sxs (x4 + (3 : Int32))).bind fun v738 =>
    (rcv q717.2 x2 11).bind fun a739 =>
    (f_X11_seeded q717.2 a739 v726 v732 v738).bind fun q739 =>
    if q717.1 = q739.1 then
      f_L_law_1172 sL sxs k23 q739.2 x1 x2 x3 x4
    else
      (okZ (0 : Int32)).bind fun z746 => some (z746, q739.2)
set_option maxRecDepth 100000 in
set_option maxHeartbeats 4000000 in
theorem t_L_law_698 (G : Gx) (l : Launch) (hfl : l.stackTraces = false) (hh : List (Nat × Nat × Nat × Nat)) (k23 : Hp → (Option Nat) → (Option Nat) → (Option Nat) → Int32 → Option (Int32 × Hp)) (hk23 : ∀ (h : Hp) (x1 : Option Nat) (x2 : Option Nat) (x3 : Option Nat) (x4 : Int32) (r : (Int32 × Hp)), k23 h x1 x2 x3 x4 = some r → RJ G l (M_L_law hh) (some (vI r.1)) r.2 23 [(0, vX G.2.2.2.2.2.1), (1, vR x1), (2, vR x2), (3, vR x3), (4, vI x4)] [] h) (h : Hp) (x1 : Option Nat) (x2 : Option Nat) (x3 : Option Nat) (x4 : Int32) (r : (Int32 × Hp)) (hf : f_L_law_698 G.2.2.2.2.2.2.1 G.2.2.2.2.2.2.2 k23 h x1 x2 x3 x4 = some r) : RJ G l (M_L_law hh) (some (vI r.1)) r.2 698 [(0, vX G.2.2.2.2.2.1), (1, vR x1), (2, vR x2), (3, vR x3), (4, vI x4)] [] h := by
  unfold f_L_law_698 at hf
  refine r_aload_n 1 dL_law_698 rfl ?_
  refine r_aload_x 0 dL_law_699 rfl ?_
  refine r_iload 4 dL_law_700 rfl ?_
  refine r_iconst (x := (1 : Int32)) dL_law_702 (by decide) ?_
  refine r_iadd dL_law_703 ?_
  obtain ⟨v704, e704, hf⟩ := ob hf
  refine r_sload dL_law_704 e704 ?_
  refine r_aload_x 0 dL_law_705 rfl ?_
  refine r_iload 4 dL_law_706 rfl ?_
  refine r_iconst (x := (2 : Int32)) dL_law_708 (by decide) ?_
  refine r_iadd dL_law_709 ?_
  obtain ⟨v710, e710, hf⟩ := ob hf
  refine r_sload dL_law_710 e710 ?_
  refine r_aload_x 0 dL_law_711 rfl ?_
  refine r_iload 4 dL_law_712 rfl ?_
  refine r_pc (pc' := 714) rfl ?_
  refine r_iconst (x := (3 : Int32)) dL_law_714 (by decide) ?_
  refine r_iadd dL_law_715 ?_
  obtain ⟨v716, e716, hf⟩ := ob hf
  refine r_sload dL_law_716 e716 ?_
  obtain ⟨a717, ea717, hf⟩ := ob hf
  obtain ⟨q717, e717, hf⟩ := ob hf
  refine r_callV (y := yX10_seeded) (ci := 10) (avs := [vI v704, vI v710, vI v716]) dL_law_717 rfl kw_3_32 kw_3_33 kw_3_34 kw_1_1 kw_3_35 oky_X10_seeded ⟨Nat.le_of_ble_eq_true rfl, Nat.le_of_ble_eq_true rfl⟩ rfl (Nat.le_of_ble_eq_true rfl) ea717 (k_X10_seeded G l e717) ?_
  refine r_aload_n 2 dL_law_720 rfl ?_
  refine r_aload_x 0 dL_law_721 rfl ?_
  refine r_iload 4 dL_law_722 rfl ?_
  refine r_iconst (x := (1 : Int32)) dL_law_724 (by decide) ?_
  refine r_iadd dL_law_725 ?_
  obtain ⟨v726, e726, hf⟩ := ob hf
  refine r_sload dL_law_726 e726 ?_
  refine r_aload_x 0 dL_law_727 rfl ?_
  refine r_iload 4 dL_law_728 rfl ?_
  refine r_iconst (x := (2 : Int32)) dL_law_730 (by decide) ?_
  refine r_iadd dL_law_731 ?_
  refine r_pc (pc' := 732) rfl ?_
  obtain ⟨v732, e732, hf⟩ := ob hf
  refine r_sload dL_law_732 e732 ?_
  refine r_aload_x 0 dL_law_733 rfl ?_
  refine r_iload 4 dL_law_734 rfl ?_
  refine r_iconst (x := (3 : Int32)) dL_law_736 (by decide) ?_
  refine r_iadd dL_law_737 ?_
  obtain ⟨v738, e738, hf⟩ := ob hf
  refine r_sload dL_law_738 e738 ?_
  obtain ⟨a739, ea739, hf⟩ := ob hf
  obtain ⟨q739, e739, hf⟩ := ob hf
  refine r_callV (y := yX11_seeded) (ci := 11) (avs := [vI v726, vI v732, vI v738]) dL_law_739 rfl kw_5_135 kw_5_136 kw_5_137 kw_1_5 kw_5_138 oky_X11_seeded ⟨Nat.le_of_ble_eq_true rfl, Nat.le_of_ble_eq_true rfl⟩ rfl (Nat.le_of_ble_eq_true rfl) ea739 (k_X11_seeded G l e739) ?_
  refine r_icmp_eq (tgt := 1172) dL_law_742 (by decide) (fun c742 => ?_) (fun c742 => ?_)
  · replace hf := (if_pos c742).symm.trans hf
    exact r_sub [0, 1, 2, 3, 4] rfl (t_L_law_1172 G l hfl hh k23 hk23 _ _ _ _ _ _ hf)
  · replace hf := (if_neg c742).symm.trans hf
    refine r_iconst (x := (0 : Int32)) dL_law_745 (by decide) ?_
    obtain ⟨z746, ez746, hf⟩ := ob hf
    have hf := Option.some.inj hf
    subst hf
    exact r_zret rfl dL_law_746 ez746
def f_L_law_747 (sL : Nat) (sxs : Nat → Int32) (k23 : Hp → (Option Nat) → (Option Nat) → (Option Nat) → Int32 → Option (Int32 × Hp)) (h : Hp) (x1 : Option Nat) (x2 : Option Nat) (x3 : Option Nat) (x4 : Int32) : Option (Int32 × Hp) :=
    (sI sL sxs (x4 + (1 : Int32))).bind fun v753 =>
    (rcv h x1 10).bind fun a754 =>
    (f_X10_judge h a754 v753).bind fun v754 =>
    (sI sL sxs (x4 + (1 : Int32))).bind fun v763 =>
    (rcv h x2 11).bind fun a764 =>
    (f_X11_judge h a764 v763).bind fun q764 =>
    if v754 = q764.1 then
      f_L_law_1172 sL sxs k23 q764.2 x1 x2 x3 x4
    else
      (okZ (0 : Int32)).bind fun z771 => some (z771, q764.2)
set_option maxRecDepth 100000 in
set_option maxHeartbeats 4000000 in
theorem t_L_law_747 (G : Gx) (l : Launch) (hfl : l.stackTraces = false) (hh : List (Nat × Nat × Nat × Nat)) (k23 : Hp → (Option Nat) → (Option Nat) → (Option Nat) → Int32 → Option (Int32 × Hp)) (hk23 : ∀ (h : Hp) (x1 : Option Nat) (x2 : Option Nat) (x3 : Option Nat) (x4 : Int32) (r : (Int32 × Hp)), k23 h x1 x2 x3 x4 = some r → RJ G l (M_L_law hh) (some (vI r.1)) r.2 23 [(0, vX G.2.2.2.2.2.1), (1, vR x1), (2, vR x2), (3, vR x3), (4, vI x4)] [] h) (h : Hp) (x1 : Option Nat) (x2 : Option Nat) (x3 : Option Nat) (x4 : Int32) (r : (Int32 × Hp)) (hf : f_L_law_747 G.2.2.2.2.2.2.1 G.2.2.2.2.2.2.2 k23 h x1 x2 x3 x4 = some r) : RJ G l (M_L_law hh) (some (vI r.1)) r.2 747 [(0, vX G.2.2.2.2.2.1), (1, vR x1), (2, vR x2), (3, vR x3), (4, vI x4)] [] h := by
  unfold f_L_law_747 at hf
  refine r_aload_n 1 dL_law_747 rfl ?_
  refine r_aload_x 0 dL_law_748 rfl ?_
  refine r_iload 4 dL_law_749 rfl ?_
  refine r_iconst (x := (1 : Int32)) dL_law_751 (by decide) ?_
  refine r_iadd dL_law_752 ?_
  obtain ⟨v753, e753, hf⟩ := ob hf
  refine r_sload dL_law_753 e753 ?_
  obtain ⟨a754, ea754, hf⟩ := ob hf
  obtain ⟨v754, e754, hf⟩ := ob hf
  refine r_callV (y := yX10_judge) (ci := 10) (avs := [vI v753]) dL_law_754 rfl kw_3_44 kw_3_45 kw_3_46 kw_1_1 kw_3_47 oky_X10_judge ⟨Nat.le_of_ble_eq_true rfl, Nat.le_of_ble_eq_true rfl⟩ rfl (Nat.le_of_ble_eq_true rfl) ea754 (k_X10_judge G l e754) ?_
  refine r_aload_n 2 dL_law_757 rfl ?_
  refine r_aload_x 0 dL_law_758 rfl ?_
  refine r_iload 4 dL_law_759 rfl ?_
  refine r_iconst (x := (1 : Int32)) dL_law_761 (by decide) ?_
  refine r_iadd dL_law_762 ?_
  obtain ⟨v763, e763, hf⟩ := ob hf
  refine r_sload dL_law_763 e763 ?_
  refine r_pc (pc' := 764) rfl ?_
  obtain ⟨a764, ea764, hf⟩ := ob hf
  obtain ⟨q764, e764, hf⟩ := ob hf
  refine r_callV (y := yX11_judge) (ci := 11) (avs := [vI v763]) dL_law_764 rfl kw_5_147 kw_5_148 kw_5_149 kw_1_5 kw_5_150 oky_X11_judge ⟨Nat.le_of_ble_eq_true rfl, Nat.le_of_ble_eq_true rfl⟩ rfl (Nat.le_of_ble_eq_true rfl) ea764 (k_X11_judge G l e764) ?_
  refine r_icmp_eq (tgt := 1172) dL_law_767 (by decide) (fun c767 => ?_) (fun c767 => ?_)
  · replace hf := (if_pos c767).symm.trans hf
    exact r_sub [0, 1, 2, 3, 4] rfl (t_L_law_1172 G l hfl hh k23 hk23 _ _ _ _ _ _ hf)
  · replace hf := (if_neg c767).symm.trans hf
    refine r_iconst (x := (0 : Int32)) dL_law_770 (by decide) ?_
    obtain ⟨z771, ez771, hf⟩ := ob hf
    have hf := Option.some.inj hf
    subst hf
    exact r_zret rfl dL_law_771 ez771
def f_L_law_772 (sL : Nat) (sxs : Nat → Int32) (k23 : Hp → (Option Nat) → (Option Nat) → (Option Nat) → Int32 → Option (Int32 × Hp)) (h : Hp) (x1 : Option Nat) (x2 : Option Nat) (x3 : Option Nat) (x4 : Int32) : Option (Int32 × Hp) :=
    (rcv h x1 10).bind fun a773 =>
    (f_X10_image h a773).bind fun q773 =>
    (rcv q773.2 x2 11).bind fun a777 =>
    (f_X11_image q773.2 a777).bind fun q777 =>
    if q773.1 = q777.1 then
      f_L_law_1172 sL sxs k23 q777.2 x1 x2 x3 x4
    else
      (okZ (0 : Int32)).bind fun z784 => some (z784, q777.2)
set_option maxRecDepth 100000 in
set_option maxHeartbeats 4000000 in
theorem t_L_law_772 (G : Gx) (l : Launch) (hfl : l.stackTraces = false) (hh : List (Nat × Nat × Nat × Nat)) (k23 : Hp → (Option Nat) → (Option Nat) → (Option Nat) → Int32 → Option (Int32 × Hp)) (hk23 : ∀ (h : Hp) (x1 : Option Nat) (x2 : Option Nat) (x3 : Option Nat) (x4 : Int32) (r : (Int32 × Hp)), k23 h x1 x2 x3 x4 = some r → RJ G l (M_L_law hh) (some (vI r.1)) r.2 23 [(0, vX G.2.2.2.2.2.1), (1, vR x1), (2, vR x2), (3, vR x3), (4, vI x4)] [] h) (h : Hp) (x1 : Option Nat) (x2 : Option Nat) (x3 : Option Nat) (x4 : Int32) (r : (Int32 × Hp)) (hf : f_L_law_772 G.2.2.2.2.2.2.1 G.2.2.2.2.2.2.2 k23 h x1 x2 x3 x4 = some r) : RJ G l (M_L_law hh) (some (vI r.1)) r.2 772 [(0, vX G.2.2.2.2.2.1), (1, vR x1), (2, vR x2), (3, vR x3), (4, vI x4)] [] h := by
  unfold f_L_law_772 at hf
  refine r_aload_n 1 dL_law_772 rfl ?_
  obtain ⟨a773, ea773, hf⟩ := ob hf
  obtain ⟨q773, e773, hf⟩ := ob hf
  refine r_callV (y := yX10_image) (ci := 10) (avs := []) dL_law_773 rfl kw_3_61 kw_3_62 kw_3_63 kw_1_1 kw_3_64 oky_X10_image ⟨Nat.le_of_ble_eq_true rfl, Nat.le_of_ble_eq_true rfl⟩ rfl (Nat.le_of_ble_eq_true rfl) ea773 (k_X10_image G l e773) ?_
  refine r_aload_n 2 dL_law_776 rfl ?_
  obtain ⟨a777, ea777, hf⟩ := ob hf
  obtain ⟨q777, e777, hf⟩ := ob hf
  refine r_callV (y := yX11_image) (ci := 11) (avs := []) dL_law_777 rfl kw_5_3 kw_5_4 kw_5_5 kw_1_5 kw_5_6 oky_X11_image ⟨Nat.le_of_ble_eq_true rfl, Nat.le_of_ble_eq_true rfl⟩ rfl (Nat.le_of_ble_eq_true rfl) ea777 (k_X11_image G l e777) ?_
  refine r_icmp_eq (tgt := 1172) dL_law_780 (by decide) (fun c780 => ?_) (fun c780 => ?_)
  · replace hf := (if_pos c780).symm.trans hf
    exact r_sub [0, 1, 2, 3, 4] rfl (t_L_law_1172 G l hfl hh k23 hk23 _ _ _ _ _ _ hf)
  · replace hf := (if_neg c780).symm.trans hf
    refine r_iconst (x := (0 : Int32)) dL_law_783 (by decide) ?_
    obtain ⟨z784, ez784, hf⟩ := ob hf
    have hf := Option.some.inj hf
    subst hf
    exact r_zret rfl dL_law_784 ez784
def f_L_law_785 (sL : Nat) (sxs : Nat → Int32) (k23 : Hp → (Option Nat) → (Option Nat) → (Option Nat) → Int32 → Option (Int32 × Hp)) (h : Hp) (x1 : Option Nat) (x2 : Option Nat) (x3 : Option Nat) (x4 : Int32) : Option (Int32 × Hp) :=
    (rcv h x1 10).bind fun a786 =>
    (f_X10_restore h a786).bind fun q786 =>
    (rcv q786.2 x2 11).bind fun a790 =>
    (f_X11_restore q786.2 a790).bind fun q790 =>
    if q786.1 = q790.1 then
      f_L_law_1172 sL sxs k23 q790.2 x1 x2 x3 x4
    else
      (okZ (0 : Int32)).bind fun z797 => some (z797, q790.2)
set_option maxRecDepth 100000 in
set_option maxHeartbeats 4000000 in
theorem t_L_law_785 (G : Gx) (l : Launch) (hfl : l.stackTraces = false) (hh : List (Nat × Nat × Nat × Nat)) (k23 : Hp → (Option Nat) → (Option Nat) → (Option Nat) → Int32 → Option (Int32 × Hp)) (hk23 : ∀ (h : Hp) (x1 : Option Nat) (x2 : Option Nat) (x3 : Option Nat) (x4 : Int32) (r : (Int32 × Hp)), k23 h x1 x2 x3 x4 = some r → RJ G l (M_L_law hh) (some (vI r.1)) r.2 23 [(0, vX G.2.2.2.2.2.1), (1, vR x1), (2, vR x2), (3, vR x3), (4, vI x4)] [] h) (h : Hp) (x1 : Option Nat) (x2 : Option Nat) (x3 : Option Nat) (x4 : Int32) (r : (Int32 × Hp)) (hf : f_L_law_785 G.2.2.2.2.2.2.1 G.2.2.2.2.2.2.2 k23 h x1 x2 x3 x4 = some r) : RJ G l (M_L_law hh) (some (vI r.1)) r.2 785 [(0, vX G.2.2.2.2.2.1), (1, vR x1), (2, vR x2), (3, vR x3), (4, vI x4)] [] h := by
  unfold f_L_law_785 at hf
  refine r_aload_n 1 dL_law_785 rfl ?_
  obtain ⟨a786, ea786, hf⟩ := ob hf
  obtain ⟨q786, e786, hf⟩ := ob hf
  refine r_callV (y := yX10_restore) (ci := 10) (avs := []) dL_law_786 rfl kw_3_65 kw_3_66 kw_3_67 kw_1_1 kw_3_68 oky_X10_restore ⟨Nat.le_of_ble_eq_true rfl, Nat.le_of_ble_eq_true rfl⟩ rfl (Nat.le_of_ble_eq_true rfl) ea786 (k_X10_restore G l e786) ?_
  refine r_aload_n 2 dL_law_789 rfl ?_
  obtain ⟨a790, ea790, hf⟩ := ob hf
  obtain ⟨q790, e790, hf⟩ := ob hf
  refine r_callV (y := yX11_restore) (ci := 11) (avs := []) dL_law_790 rfl kw_5_7 kw_5_8 kw_5_9 kw_1_5 kw_5_10 oky_X11_restore ⟨Nat.le_of_ble_eq_true rfl, Nat.le_of_ble_eq_true rfl⟩ rfl (Nat.le_of_ble_eq_true rfl) ea790 (k_X11_restore G l e790) ?_
  refine r_icmp_eq (tgt := 1172) dL_law_793 (by decide) (fun c793 => ?_) (fun c793 => ?_)
  · replace hf := (if_pos c793).symm.trans hf
    exact r_sub [0, 1, 2, 3, 4] rfl (t_L_law_1172 G l hfl hh k23 hk23 _ _ _ _ _ _ hf)
  · replace hf := (if_neg c793).symm.trans hf
    refine r_iconst (x := (0 : Int32)) dL_law_796 (by decide) ?_
    obtain ⟨z797, ez797, hf⟩ := ob hf
    have hf := Option.some.inj hf
    subst hf
    exact r_zret rfl dL_law_797 ez797
def f_L_law_798 (sL : Nat) (sxs : Nat → Int32) (k23 : Hp → (Option Nat) → (Option Nat) → (Option Nat) → Int32 → Option (Int32 × Hp)) (h : Hp) (x1 : Option Nat) (x2 : Option Nat) (x3 : Option Nat) (x4 : Int32) : Option (Int32 × Hp) :=
    (sI sL sxs (x4 + (1 : Int32))).bind fun v804 =>
    (rcv h x1 10).bind fun a805 =>
    (f_X10_count h a805 v804).bind fun v805 =>
    (sI sL sxs (x4 + (1 : Int32))).bind fun v814 =>
    (rcv h x2 11).bind fun a815 =>
    (f_X11_count h a815 v814).bind fun q815 =>
    if v805 = q815.1 then
      f_L_law_1172 sL sxs k23 q815.2 x1 x2 x3 x4
    else
      (okZ (0 : Int32)).bind fun z822 => some (z822, q815.2)
set_option maxRecDepth 100000 in
set_option maxHeartbeats 4000000 in
theorem t_L_law_798 (G : Gx) (l : Launch) (hfl : l.stackTraces = false) (hh : List (Nat × Nat × Nat × Nat)) (k23 : Hp → (Option Nat) → (Option Nat) → (Option Nat) → Int32 → Option (Int32 × Hp)) (hk23 : ∀ (h : Hp) (x1 : Option Nat) (x2 : Option Nat) (x3 : Option Nat) (x4 : Int32) (r : (Int32 × Hp)), k23 h x1 x2 x3 x4 = some r → RJ G l (M_L_law hh) (some (vI r.1)) r.2 23 [(0, vX G.2.2.2.2.2.1), (1, vR x1), (2, vR x2), (3, vR x3), (4, vI x4)] [] h) (h : Hp) (x1 : Option Nat) (x2 : Option Nat) (x3 : Option Nat) (x4 : Int32) (r : (Int32 × Hp)) (hf : f_L_law_798 G.2.2.2.2.2.2.1 G.2.2.2.2.2.2.2 k23 h x1 x2 x3 x4 = some r) : RJ G l (M_L_law hh) (some (vI r.1)) r.2 798 [(0, vX G.2.2.2.2.2.1), (1, vR x1), (2, vR x2), (3, vR x3), (4, vI x4)] [] h := by
  unfold f_L_law_798 at hf
  refine r_aload_n 1 dL_law_798 rfl ?_
  refine r_aload_x 0 dL_law_799 rfl ?_
  refine r_iload 4 dL_law_800 rfl ?_
  refine r_iconst (x := (1 : Int32)) dL_law_802 (by decide) ?_
  refine r_iadd dL_law_803 ?_
  obtain ⟨v804, e804, hf⟩ := ob hf
  refine r_sload dL_law_804 e804 ?_
  obtain ⟨a805, ea805, hf⟩ := ob hf
  obtain ⟨v805, e805, hf⟩ := ob hf
  refine r_callV (y := yX10_count) (ci := 10) (avs := [vI v804]) dL_law_805 rfl kw_3_69 kw_3_70 kw_3_71 kw_1_1 kw_3_72 oky_X10_count ⟨Nat.le_of_ble_eq_true rfl, Nat.le_of_ble_eq_true rfl⟩ rfl (Nat.le_of_ble_eq_true rfl) ea805 (k_X10_count G l e805) ?_
  refine r_aload_n 2 dL_law_808 rfl ?_
  refine r_aload_x 0 dL_law_809 rfl ?_
  refine r_iload 4 dL_law_810 rfl ?_
  refine r_iconst (x := (1 : Int32)) dL_law_812 (by decide) ?_
  refine r_iadd dL_law_813 ?_
  obtain ⟨v814, e814, hf⟩ := ob hf
  refine r_sload dL_law_814 e814 ?_
  refine r_pc (pc' := 815) rfl ?_
  obtain ⟨a815, ea815, hf⟩ := ob hf
  obtain ⟨q815, e815, hf⟩ := ob hf
  refine r_callV (y := yX11_count) (ci := 11) (avs := [vI v814]) dL_law_815 rfl kw_5_158 kw_5_159 kw_5_160 kw_1_5 kw_5_161 oky_X11_count ⟨Nat.le_of_ble_eq_true rfl, Nat.le_of_ble_eq_true rfl⟩ rfl (Nat.le_of_ble_eq_true rfl) ea815 (k_X11_count G l e815) ?_
  refine r_icmp_eq (tgt := 1172) dL_law_818 (by decide) (fun c818 => ?_) (fun c818 => ?_)
  · replace hf := (if_pos c818).symm.trans hf
    exact r_sub [0, 1, 2, 3, 4] rfl (t_L_law_1172 G l hfl hh k23 hk23 _ _ _ _ _ _ hf)
  · replace hf := (if_neg c818).symm.trans hf
    refine r_iconst (x := (0 : Int32)) dL_law_821 (by decide) ?_
    obtain ⟨z822, ez822, hf⟩ := ob hf
    have hf := Option.some.inj hf
    subst hf
    exact r_zret rfl dL_law_822 ez822
def f_L_law_823 (sL : Nat) (sxs : Nat → Int32) (k23 : Hp → (Option Nat) → (Option Nat) → (Option Nat) → Int32 → Option (Int32 × Hp)) (h : Hp) (x1 : Option Nat) (x2 : Option Nat) (x3 : Option Nat) (x4 : Int32) : Option (Int32 × Hp) :=
    (sI sL sxs (x4 + (1 : Int32))).bind fun v829 =>
    (sI sL sxs (x4 + (2 : Int32))).bind fun v835 =>
    (sI sL sxs (x4 + (3 : Int32))).bind fun v841 =>
    (sI sL sxs (x4 + (4 : Int32))).bind fun v847 =>
    (rcv h x1 10).bind fun a848 =>
    (f_X10_keep h a848 v829 v835 v841 v847).bind fun q848 =>
    (sI sL sxs (x4 + (1 : Int32))).bind fun v857 =>
    (sI sL sxs (x4 + (2 : Int32))).bind fun v863 =>
    (sI sL sxs (x4 + (3 : Int32))).bind fun v869 =>
    (sI sL sxs (x4 + (4 : Int32))).bind fun v875 =>
    (rcv q848.2 x2 11).bind fun a876 =>
    (f_X11_keep q848.2 a876 v857 v863 v869 v875).bind fun q876 =>
    if q848.1 = q876.1 then
      f_L_law_1172 sL sxs k23 q876.2 x1 x2 x3 x4
    else
      (okZ (0 : Int32)).bind fun z883 => some (z883, q876.2)
set_option maxRecDepth 100000 in
set_option maxHeartbeats 4000000 in
theorem t_L_law_823 (G : Gx) (l : Launch) (hfl : l.stackTraces = false) (hh : List (Nat × Nat × Nat × Nat)) (k23 : Hp → (Option Nat) → (Option Nat) → (Option Nat) → Int32 → Option (Int32 × Hp)) (hk23 : ∀ (h : Hp) (x1 : Option Nat) (x2 : Option Nat) (x3 : Option Nat) (x4 : Int32) (r : (Int32 × Hp)), k23 h x1 x2 x3 x4 = some r → RJ G l (M_L_law hh) (some (vI r.1)) r.2 23 [(0, vX G.2.2.2.2.2.1), (1, vR x1), (2, vR x2), (3, vR x3), (4, vI x4)] [] h) (h : Hp) (x1 : Option Nat) (x2 : Option Nat) (x3 : Option Nat) (x4 : Int32) (r : (Int32 × Hp)) (hf : f_L_law_823 G.2.2.2.2.2.2.1 G.2.2.2.2.2.2.2 k23 h x1 x2 x3 x4 = some r) : RJ G l (M_L_law hh) (some (vI r.1)) r.2 823 [(0, vX G.2.2.2.2.2.1), (1, vR x1), (2, vR x2), (3, vR x3), (4, vI x4)] [] h := by
  unfold f_L_law_823 at hf
  refine r_aload_n 1 dL_law_823 rfl ?_
  refine r_aload_x 0 dL_law_824 rfl ?_
  refine r_iload 4 dL_law_825 rfl ?_
  refine r_iconst (x := (1 : Int32)) dL_law_827 (by decide) ?_
  refine r_iadd dL_law_828 ?_
  obtain ⟨v829, e829, hf⟩ := ob hf
  refine r_sload dL_law_829 e829 ?_
  refine r_aload_x 0 dL_law_830 rfl ?_
  refine r_iload 4 dL_law_831 rfl ?_
  refine r_iconst (x := (2 : Int32)) dL_law_833 (by decide) ?_
  refine r_iadd dL_law_834 ?_
  obtain ⟨v835, e835, hf⟩ := ob hf
  refine r_sload dL_law_835 e835 ?_
  refine r_aload_x 0 dL_law_836 rfl ?_
  refine r_iload 4 dL_law_837 rfl ?_
  refine r_pc (pc' := 839) rfl ?_
  refine r_iconst (x := (3 : Int32)) dL_law_839 (by decide) ?_
  refine r_iadd dL_law_840 ?_
  obtain ⟨v841, e841, hf⟩ := ob hf
  refine r_sload dL_law_841 e841 ?_
  refine r_aload_x 0 dL_law_842 rfl ?_
  refine r_iload 4 dL_law_843 rfl ?_
  refine r_iconst (x := (4 : Int32)) dL_law_845 (by decide) ?_
  refine r_iadd dL_law_846 ?_
  obtain ⟨v847, e847, hf⟩ := ob hf
  refine r_sload dL_law_847 e847 ?_
  obtain ⟨a848, ea848, hf⟩ := ob hf
  obtain ⟨q848, e848, hf⟩ := ob hf
  refine r_callV (y := yX10_keep) (ci := 10) (avs := [vI v829, vI v835, vI v841, vI v847]) dL_law_848 rfl kw_3_73 kw_3_74 kw_3_75 kw_1_1 kw_3_76 oky_X10_keep ⟨Nat.le_of_ble_eq_true rfl, Nat.le_of_ble_eq_true rfl⟩ rfl (Nat.le_of_ble_eq_true rfl) ea848 (k_X10_keep G l e848) ?_
  refine r_aload_n 2 dL_law_851 rfl ?_
  refine r_aload_x 0 dL_law_852 rfl ?_
  refine r_iload 4 dL_law_853 rfl ?_
  refine r_iconst (x := (1 : Int32)) dL_law_855 (by decide) ?_
  refine r_iadd dL_law_856 ?_
  refine r_pc (pc' := 857) rfl ?_
  obtain ⟨v857, e857, hf⟩ := ob hf
  refine r_sload dL_law_857 e857 ?_
  refine r_aload_x 0 dL_law_858 rfl ?_
  refine r_iload 4 dL_law_859 rfl ?_
  refine r_iconst (x := (2 : Int32)) dL_law_861 (by decide) ?_
  refine r_iadd dL_law_862 ?_
  obtain ⟨v863, e863, hf⟩ := ob hf
  refine r_sload dL_law_863 e863 ?_
  refine r_aload_x 0 dL_law_864 rfl ?_
  refine r_iload 4 dL_law_865 rfl ?_
  refine r_iconst (x := (3 : Int32)) dL_law_867 (by decide) ?_
  refine r_iadd dL_law_868 ?_
  obtain ⟨v869, e869, hf⟩ := ob hf
  refine r_sload dL_law_869 e869 ?_
  refine r_aload_x 0 dL_law_870 rfl ?_
  refine r_iload 4 dL_law_871 rfl ?_
  refine r_iconst (x := (4 : Int32)) dL_law_873 (by decide) ?_
  refine r_pc (pc' := 874) rfl ?_
  refine r_iadd dL_law_874 ?_
  obtain ⟨v875, e875, hf⟩ := ob hf
  refine r_sload dL_law_875 e875 ?_
  obtain ⟨a876, ea876, hf⟩ := ob hf
  obtain ⟨q876, e876, hf⟩ := ob hf
  refine r_callV (y := yX11_keep) (ci := 11) (avs := [vI v857, vI v863, vI v869, vI v875]) dL_law_876 rfl kw_5_162 kw_5_163 kw_5_164 kw_1_5 kw_5_165 oky_X11_keep ⟨Nat.le_of_ble_eq_true rfl, Nat.le_of_ble_eq_true rfl⟩ rfl (Nat.le_of_ble_eq_true rfl) ea876 (k_X11_keep G l e876) ?_
  refine r_icmp_eq (tgt := 1172) dL_law_879 (by decide) (fun c879 => ?_) (fun c879 => ?_)
  · replace hf := (if_pos c879).symm.trans hf
    exact r_sub [0, 1, 2, 3, 4] rfl (t_L_law_1172 G l hfl hh k23 hk23 _ _ _ _ _ _ hf)
  · replace hf := (if_neg c879).symm.trans hf
    refine r_iconst (x := (0 : Int32)) dL_law_882 (by decide) ?_
    obtain ⟨z883, ez883, hf⟩ := ob hf
    have hf := Option.some.inj hf
    subst hf
    exact r_zret rfl dL_law_883 ez883
def f_L_law_884 (sL : Nat) (sxs : Nat → Int32) (k23 : Hp → (Option Nat) → (Option Nat) → (Option Nat) → Int32 → Option (Int32 × Hp)) (h : Hp) (x1 : Option Nat) (x2 : Option Nat) (x3 : Option Nat) (x4 : Int32) : Option (Int32 × Hp) :=
    (sI sL sxs (x4 + (1 : Int32))).bind fun v890 =>
    (sI sL sxs (x4 + (2 : Int32))).bind fun v896 =>
    (sI sL sxs (x4 + (3 : Int32))).bind fun v902 =>
    (rcv h x1 10).bind fun a903 =>
    (f_X10_row h a903 v890 v896 v902).bind fun q903 =>
    (sI sL sxs (x4 + (1 : Int32))).bind fun v912 =>
    (sI sL sxs (x4 + (2 : Int32))).bind fun v918 =>
    (sI sL sxs (x4 + (3 : Int32))).bind fun v924 =>
    (rcv q903.2 x2 11).bind fun a925 =>
    (f_X11_row q903.2 a925 v912 v918 v924).bind fun q925 =>
    if q903.1 = q925.1 then
      f_L_law_1172 sL sxs k23 q925.2 x1 x2 x3 x4
    else
      (okZ (0 : Int32)).bind fun z932 => some (z932, q925.2)
set_option maxRecDepth 100000 in
set_option maxHeartbeats 4000000 in
theorem t_L_law_884 (G : Gx) (l : Launch) (hfl : l.stackTraces = false) (hh : List (Nat × Nat × Nat × Nat)) (k23 : Hp → (Option Nat) → (Option Nat) → (Option Nat) → Int32 → Option (Int32 × Hp)) (hk23 : ∀ (h : Hp) (x1 : Option Nat) (x2 : Option Nat) (x3 : Option Nat) (x4 : Int32) (r : (Int32 × Hp)), k23 h x1 x2 x3 x4 = some r → RJ G l (M_L_law hh) (some (vI r.1)) r.2 23 [(0, vX G.2.2.2.2.2.1), (1, vR x1), (2, vR x2), (3, vR x3), (4, vI x4)] [] h) (h : Hp) (x1 : Option Nat) (x2 : Option Nat) (x3 : Option Nat) (x4 : Int32) (r : (Int32 × Hp)) (hf : f_L_law_884 G.2.2.2.2.2.2.1 G.2.2.2.2.2.2.2 k23 h x1 x2 x3 x4 = some r) : RJ G l (M_L_law hh) (some (vI r.1)) r.2 884 [(0, vX G.2.2.2.2.2.1), (1, vR x1), (2, vR x2), (3, vR x3), (4, vI x4)] [] h := by
  unfold f_L_law_884 at hf
  refine r_aload_n 1 dL_law_884 rfl ?_
  refine r_aload_x 0 dL_law_885 rfl ?_
  refine r_iload 4 dL_law_886 rfl ?_
  refine r_iconst (x := (1 : Int32)) dL_law_888 (by decide) ?_
  refine r_iadd dL_law_889 ?_
  obtain ⟨v890, e890, hf⟩ := ob hf
  refine r_sload dL_law_890 e890 ?_
  refine r_aload_x 0 dL_law_891 rfl ?_
  refine r_iload 4 dL_law_892 rfl ?_
  refine r_iconst (x := (2 : Int32)) dL_law_894 (by decide) ?_
  refine r_iadd dL_law_895 ?_
  obtain ⟨v896, e896, hf⟩ := ob hf
  refine r_sload dL_law_896 e896 ?_
  refine r_aload_x 0 dL_law_897 rfl ?_
  refine r_iload 4 dL_law_898 rfl ?_
  refine r_pc (pc' := 900) rfl ?_
  refine r_iconst (x := (3 : Int32)) dL_law_900 (by decide) ?_
  refine r_iadd dL_law_901 ?_
  obtain ⟨v902, e902, hf⟩ := ob hf
  refine r_sload dL_law_902 e902 ?_
  obtain ⟨a903, ea903, hf⟩ := ob hf
  obtain ⟨q903, e903, hf⟩ := ob hf
  refine r_callV (y := yX10_row) (ci := 10) (avs := [vI v890, vI v896, vI v902]) dL_law_903 rfl kw_3_81 kw_3_82 kw_3_83 kw_1_1 kw_3_84 oky_X10_row ⟨Nat.le_of_ble_eq_true rfl, Nat.le_of_ble_eq_true rfl⟩ rfl (Nat.le_of_ble_eq_true rfl) ea903 (k_X10_row G l e903) ?_
  refine r_aload_n 2 dL_law_906 rfl ?_
  refine r_aload_x 0 dL_law_907 rfl ?_
  refine r_iload 4 dL_law_908 rfl ?_
  refine r_iconst (x := (1 : Int32)) dL_law_910 (by decide) ?_
  refine r_iadd dL_law_911 ?_
  obtain ⟨v912, e912, hf⟩ := ob hf
  refine r_sload dL_law_912 e912 ?_
  refine r_aload_x 0 dL_law_913 rfl ?_
  refine r_iload 4 dL_law_914 rfl ?_
  refine r_iconst (x := (2 : Int32)) dL_law_916 (by decide) ?_
  refine r_iadd dL_law_917 ?_
  refine r_pc (pc' := 918) rfl ?_
  obtain ⟨v918, e918, hf⟩ := ob hf
  refine r_sload dL_law_918 e918 ?_
  refine r_aload_x 0 dL_law_919 rfl ?_
  refine r_iload 4 dL_law_920 rfl ?_
  refine r_iconst (x := (3 : Int32)) dL_law_922 (by decide) ?_
  refine r_iadd dL_law_923 ?_
  obtain ⟨v924, e924, hf⟩ := ob hf
  refine r_sload dL_law_924 e924 ?_
  obtain ⟨a925, ea925, hf⟩ := ob hf
  obtain ⟨q925, e925, hf⟩ := ob hf
  refine r_callV (y := yX11_row) (ci := 11) (avs := [vI v912, vI v918, vI v924]) dL_law_925 rfl kw_5_166 kw_5_167 kw_5_168 kw_1_5 kw_5_169 oky_X11_row ⟨Nat.le_of_ble_eq_true rfl, Nat.le_of_ble_eq_true rfl⟩ rfl (Nat.le_of_ble_eq_true rfl) ea925 (k_X11_row G l e925) ?_
  refine r_icmp_eq (tgt := 1172) dL_law_928 (by decide) (fun c928 => ?_) (fun c928 => ?_)
  · replace hf := (if_pos c928).symm.trans hf
    exact r_sub [0, 1, 2, 3, 4] rfl (t_L_law_1172 G l hfl hh k23 hk23 _ _ _ _ _ _ hf)
  · replace hf := (if_neg c928).symm.trans hf
    refine r_iconst (x := (0 : Int32)) dL_law_931 (by decide) ?_
    obtain ⟨z932, ez932, hf⟩ := ob hf
    have hf := Option.some.inj hf
    subst hf
    exact r_zret rfl dL_law_932 ez932
def f_L_law_933 (sL : Nat) (sxs : Nat → Int32) (k23 : Hp → (Option Nat) → (Option Nat) → (Option Nat) → Int32 → Option (Int32 × Hp)) (h : Hp) (x1 : Option Nat) (x2 : Option Nat) (x3 : Option Nat) (x4 : Int32) : Option (Int32 × Hp) :=
    (sI sL sxs (x4 + (1 : Int32))).bind fun v939 =>
    (sI sL sxs (x4 + (2 : Int32))).bind fun v945 =>
    (sI sL sxs (x4 + (3 : Int32))).bind fun v951 =>
    (rcv h x1 10).bind fun a952 =>
    (f_X10_put h a952 v939 v945 v951).bind fun q952 =>
    (sI sL sxs (x4 + (1 : Int32))).bind fun v961 =>
    (sI sL sxs (x4 + (2 : Int32))).bind fun v967 =>
    (sI sL sxs (x4 + (3 : Int32))).bind fun v973 =>
    (rcv q952.2 x2 11).bind fun a974 =>
    (f_X11_put q952.2 a974 v961 v967 v973).bind fun q974 =>
    if q952.1 = q974.1 then
      f_L_law_1172 sL sxs k23 q974.2 x1 x2 x3 x4
    else
      (okZ (0 : Int32)).bind fun z981 => some (z981, q974.2)
set_option maxRecDepth 100000 in
set_option maxHeartbeats 4000000 in
theorem t_L_law_933 (G : Gx) (l : Launch) (hfl : l.stackTraces = false) (hh : List (Nat × Nat × Nat × Nat)) (k23 : Hp → (Option Nat) → (Option Nat) → (Option Nat) → Int32 → Option (Int32 × Hp)) (hk23 : ∀ (h : Hp) (x1 : Option Nat) (x2 : Option Nat) (x3 : Option Nat) (x4 : Int32) (r : (Int32 × Hp)), k23 h x1 x2 x3 x4 = some r → RJ G l (M_L_law hh) (some (vI r.1)) r.2 23 [(0, vX G.2.2.2.2.2.1), (1, vR x1), (2, vR x2), (3, vR x3), (4, vI x4)] [] h) (h : Hp) (x1 : Option Nat) (x2 : Option Nat) (x3 : Option Nat) (x4 : Int32) (r : (Int32 × Hp)) (hf : f_L_law_933 G.2.2.2.2.2.2.1 G.2.2.2.2.2.2.2 k23 h x1 x2 x3 x4 = some r) : RJ G l (M_L_law hh) (some (vI r.1)) r.2 933 [(0, vX G.2.2.2.2.2.1), (1, vR x1), (2, vR x2), (3, vR x3), (4, vI x4)] [] h := by
  unfold f_L_law_933 at hf
  refine r_aload_n 1 dL_law_933 rfl ?_
  refine r_aload_x 0 dL_law_934 rfl ?_
  refine r_iload 4 dL_law_935 rfl ?_
  refine r_iconst (x := (1 : Int32)) dL_law_937 (by decide) ?_
  refine r_iadd dL_law_938 ?_
  obtain ⟨v939, e939, hf⟩ := ob hf
  refine r_sload dL_law_939 e939 ?_
  refine r_aload_x 0 dL_law_940 rfl ?_
  refine r_iload 4 dL_law_941 rfl ?_
  refine r_iconst (x := (2 : Int32)) dL_law_943 (by decide) ?_
  refine r_iadd dL_law_944 ?_
  obtain ⟨v945, e945, hf⟩ := ob hf
  refine r_sload dL_law_945 e945 ?_
  refine r_aload_x 0 dL_law_946 rfl ?_
  refine r_iload 4 dL_law_947 rfl ?_
  refine r_pc (pc' := 949) rfl ?_
  refine r_iconst (x := (3 : Int32)) dL_law_949 (by decide) ?_
  refine r_iadd dL_law_950 ?_
  obtain ⟨v951, e951, hf⟩ := ob hf
  refine r_sload dL_law_951 e951 ?_
  obtain ⟨a952, ea952, hf⟩ := ob hf
  obtain ⟨q952, e952, hf⟩ := ob hf
  refine r_callV (y := yX10_put) (ci := 10) (avs := [vI v939, vI v945, vI v951]) dL_law_952 rfl kw_3_90 kw_3_91 kw_3_92 kw_1_1 kw_3_93 oky_X10_put ⟨Nat.le_of_ble_eq_true rfl, Nat.le_of_ble_eq_true rfl⟩ rfl (Nat.le_of_ble_eq_true rfl) ea952 (k_X10_put G l e952) ?_
  refine r_aload_n 2 dL_law_955 rfl ?_
  refine r_aload_x 0 dL_law_956 rfl ?_
  refine r_iload 4 dL_law_957 rfl ?_
  refine r_iconst (x := (1 : Int32)) dL_law_959 (by decide) ?_
  refine r_iadd dL_law_960 ?_
  obtain ⟨v961, e961, hf⟩ := ob hf
  refine r_sload dL_law_961 e961 ?_
  refine r_aload_x 0 dL_law_962 rfl ?_
  refine r_iload 4 dL_law_963 rfl ?_
  refine r_iconst (x := (2 : Int32)) dL_law_965 (by decide) ?_
  refine r_iadd dL_law_966 ?_
  refine r_pc (pc' := 967) rfl ?_
  obtain ⟨v967, e967, hf⟩ := ob hf
  refine r_sload dL_law_967 e967 ?_
  refine r_aload_x 0 dL_law_968 rfl ?_
  refine r_iload 4 dL_law_969 rfl ?_
  refine r_iconst (x := (3 : Int32)) dL_law_971 (by decide) ?_
  refine r_iadd dL_law_972 ?_
  obtain ⟨v973, e973, hf⟩ := ob hf
  refine r_sload dL_law_973 e973 ?_
  obtain ⟨a974, ea974, hf⟩ := ob hf
  obtain ⟨q974, e974, hf⟩ := ob hf
  refine r_callV (y := yX11_put) (ci := 11) (avs := [vI v961, vI v967, vI v973]) dL_law_974 rfl kw_5_170 kw_5_171 kw_5_172 kw_1_5 kw_5_173 oky_X11_put ⟨Nat.le_of_ble_eq_true rfl, Nat.le_of_ble_eq_true rfl⟩ rfl (Nat.le_of_ble_eq_true rfl) ea974 (k_X11_put G l e974) ?_
  refine r_icmp_eq (tgt := 1172) dL_law_977 (by decide) (fun c977 => ?_) (fun c977 => ?_)
  · replace hf := (if_pos c977).symm.trans hf
    exact r_sub [0, 1, 2, 3, 4] rfl (t_L_law_1172 G l hfl hh k23 hk23 _ _ _ _ _ _ hf)
  · replace hf := (if_neg c977).symm.trans hf
    refine r_iconst (x := (0 : Int32)) dL_law_980 (by decide) ?_
    obtain ⟨z981, ez981, hf⟩ := ob hf
    have hf := Option.some.inj hf
    subst hf
    exact r_zret rfl dL_law_981 ez981
def f_L_law_1046 (sL : Nat) (sxs : Nat → Int32) (k23 : Hp → (Option Nat) → (Option Nat) → (Option Nat) → Int32 → Option (Int32 × Hp)) (h : Hp) (x1 : Option Nat) (x2 : Option Nat) (x3 : Option Nat) (x4 : Int32) : Option (Int32 × Hp) :=
    f_L_law_1172 sL sxs k23 h x1 x2 x3 x4
set_option maxRecDepth 100000 in
set_option maxHeartbeats 4000000 in
theorem t_L_law_1046 (G : Gx) (l : Launch) (hfl : l.stackTraces = false) (hh : List (Nat × Nat × Nat × Nat)) (k23 : Hp → (Option Nat) → (Option Nat) → (Option Nat) → Int32 → Option (Int32 × Hp)) (hk23 : ∀ (h : Hp) (x1 : Option Nat) (x2 : Option Nat) (x3 : Option Nat) (x4 : Int32) (r : (Int32 × Hp)), k23 h x1 x2 x3 x4 = some r → RJ G l (M_L_law hh) (some (vI r.1)) r.2 23 [(0, vX G.2.2.2.2.2.1), (1, vR x1), (2, vR x2), (3, vR x3), (4, vI x4)] [] h) (h : Hp) (x1 : Option Nat) (x2 : Option Nat) (x3 : Option Nat) (x4 : Int32) (r : (Int32 × Hp)) (hf : f_L_law_1046 G.2.2.2.2.2.2.1 G.2.2.2.2.2.2.2 k23 h x1 x2 x3 x4 = some r) : RJ G l (M_L_law hh) (some (vI r.1)) r.2 1046 [(0, vX G.2.2.2.2.2.1), (1, vR x1), (2, vR x2), (3, vR x3), (4, vI x4)] [] h := by
  unfold f_L_law_1046 at hf
  refine r_goto (tgt := 1172) dL_law_1046 (by decide) ?_
  exact r_sub [0, 1, 2, 3, 4] rfl (t_L_law_1172 G l hfl hh k23 hk23 _ _ _ _ _ _ hf)
def f_L_law_982 (sL : Nat) (sxs : Nat → Int32) (k23 : Hp → (Option Nat) → (Option Nat) → (Option Nat) → Int32 → Option (Int32 × Hp)) (h : Hp) (x1 : Option Nat) (x2 : Option Nat) (x3 : Option Nat) (x4 : Int32) : Option (Int32 × Hp) :=
    (sI sL sxs (x4 + (1 : Int32))).bind fun v988 =>
    (sI sL sxs (x4 + (2 : Int32))).bind fun v994 =>
    (f_L_element h x1 v988 v994 x3).bind fun q996 =>
    (sI sL sxs (x4 + (1 : Int32))).bind fun v1007 =>
    (sI sL sxs (x4 + (2 : Int32))).bind fun v1013 =>
    (rcv q996.2 x2 11).bind fun a1014 =>
    (f_X11_element q996.2 a1014 v1007 v1013).bind fun q1014 =>
    (rcv q1014.2 x2 11).bind fun a1020 =>
    (f_X11_thrown q1014.2 a1020).bind fun v1020 =>
    if v1020 = q996.1 then
      if q996.1 = 0 then
        (aL q1014.2 x3 (0 : Int32)).bind fun v1037 =>
        if (lg_cmp v1037 q1014.1) = 0 then
          f_L_law_1046 sL sxs k23 q1014.2 x1 x2 x3 x4
        else
          (okZ (0 : Int32)).bind fun z1045 => some (z1045, q1014.2)
      else
        f_L_law_1046 sL sxs k23 q1014.2 x1 x2 x3 x4
    else
      (okZ (0 : Int32)).bind fun z1029 => some (z1029, q1014.2)
set_option maxRecDepth 100000 in
set_option maxHeartbeats 4000000 in
theorem t_L_law_982 (G : Gx) (l : Launch) (hfl : l.stackTraces = false) (hh : List (Nat × Nat × Nat × Nat)) (k23 : Hp → (Option Nat) → (Option Nat) → (Option Nat) → Int32 → Option (Int32 × Hp)) (hk23 : ∀ (h : Hp) (x1 : Option Nat) (x2 : Option Nat) (x3 : Option Nat) (x4 : Int32) (r : (Int32 × Hp)), k23 h x1 x2 x3 x4 = some r → RJ G l (M_L_law hh) (some (vI r.1)) r.2 23 [(0, vX G.2.2.2.2.2.1), (1, vR x1), (2, vR x2), (3, vR x3), (4, vI x4)] [] h) (h : Hp) (x1 : Option Nat) (x2 : Option Nat) (x3 : Option Nat) (x4 : Int32) (r : (Int32 × Hp)) (hf : f_L_law_982 G.2.2.2.2.2.2.1 G.2.2.2.2.2.2.2 k23 h x1 x2 x3 x4 = some r) : RJ G l (M_L_law hh) (some (vI r.1)) r.2 982 [(0, vX G.2.2.2.2.2.1), (1, vR x1), (2, vR x2), (3, vR x3), (4, vI x4)] [] h := by
  unfold f_L_law_982 at hf
  refine r_aload_n 1 dL_law_982 rfl ?_
  refine r_aload_x 0 dL_law_983 rfl ?_
  refine r_iload 4 dL_law_984 rfl ?_
  refine r_iconst (x := (1 : Int32)) dL_law_986 (by decide) ?_
  refine r_iadd dL_law_987 ?_
  obtain ⟨v988, e988, hf⟩ := ob hf
  refine r_sload dL_law_988 e988 ?_
  refine r_aload_x 0 dL_law_989 rfl ?_
  refine r_iload 4 dL_law_990 rfl ?_
  refine r_iconst (x := (2 : Int32)) dL_law_992 (by decide) ?_
  refine r_iadd dL_law_993 ?_
  obtain ⟨v994, e994, hf⟩ := ob hf
  refine r_sload dL_law_994 e994 ?_
  refine r_aload_n 3 dL_law_995 rfl ?_
  obtain ⟨q996, e996, hf⟩ := ob hf
  refine r_callSW (y := yL_element) (avs := [vR x1, vI v988, vI v994, vR x3]) dL_law_996 kw_4_36 kw_4_37 kw_1_0 kw_4_38 oky_L_element ⟨Nat.le_of_ble_eq_true rfl, Nat.le_of_ble_eq_true rfl⟩ rfl (Nat.le_of_ble_eq_true rfl) (k_L_element G l hfl e996) ?_
  refine r_pc (pc' := 999) rfl ?_
  refine r_istore (lv' := [(5, vI q996.1), (0, vX G.2.2.2.2.2.1), (1, vR x1), (2, vR x2), (3, vR x3), (4, vI x4)]) dL_law_999 (Nat.le_of_ble_eq_true rfl) rfl ?_
  refine r_aload_n 3 dL_law_1001 rfl ?_
  refine r_aload_x 1 dL_law_1002 rfl ?_
  refine r_iload 5 dL_law_1003 rfl ?_
  refine r_iconst (x := (1 : Int32)) dL_law_1005 (by decide) ?_
  refine r_iadd dL_law_1006 ?_
  obtain ⟨v1007, e1007, hf⟩ := ob hf
  refine r_sload dL_law_1007 e1007 ?_
  refine r_aload_x 1 dL_law_1008 rfl ?_
  refine r_iload 5 dL_law_1009 rfl ?_
  refine r_iconst (x := (2 : Int32)) dL_law_1011 (by decide) ?_
  refine r_iadd dL_law_1012 ?_
  obtain ⟨v1013, e1013, hf⟩ := ob hf
  refine r_sload dL_law_1013 e1013 ?_
  obtain ⟨a1014, ea1014, hf⟩ := ob hf
  obtain ⟨q1014, e1014, hf⟩ := ob hf
  refine r_callV (y := yX11_element) (ci := 11) (avs := [vI v1007, vI v1013]) dL_law_1014 rfl kw_5_177 kw_5_178 kw_5_179 kw_1_5 kw_5_180 oky_X11_element ⟨Nat.le_of_ble_eq_true rfl, Nat.le_of_ble_eq_true rfl⟩ rfl (Nat.le_of_ble_eq_true rfl) ea1014 (k_X11_element G l e1014) ?_
  refine r_lstore (lv' := [(6, vL q1014.1), (5, vI q996.1), (0, vX G.2.2.2.2.2.1), (1, vR x1), (2, vR x2), (3, vR x3), (4, vI x4)]) dL_law_1017 (Nat.le_of_ble_eq_true rfl) rfl ?_
  refine r_pc (pc' := 1019) rfl ?_
  refine r_aload_n 4 dL_law_1019 rfl ?_
  obtain ⟨a1020, ea1020, hf⟩ := ob hf
  obtain ⟨v1020, e1020, hf⟩ := ob hf
  refine r_callV (y := yX11_thrown) (ci := 11) (avs := []) dL_law_1020 rfl kw_4_162 kw_4_163 kw_4_164 kw_1_5 kw_4_165 oky_X11_thrown ⟨Nat.le_of_ble_eq_true rfl, Nat.le_of_ble_eq_true rfl⟩ rfl (Nat.le_of_ble_eq_true rfl) ea1020 (k_X11_thrown G l e1020) ?_
  refine r_iload 1 dL_law_1023 rfl ?_
  refine r_icmp_eq (tgt := 1030) dL_law_1025 (by decide) (fun c1025 => ?_) (fun c1025 => ?_)
  · replace hf := (if_pos c1025).symm.trans hf
    refine r_iload 1 dL_law_1030 rfl ?_
    refine r_if_ne (tgt := 1046) dL_law_1032 (by decide) (fun c1032 => ?_) (fun c1032 => ?_)
    · replace hf := (if_pos c1032).symm.trans hf
      refine r_aload_n 5 dL_law_1035 rfl ?_
      refine r_iconst (x := (0 : Int32)) dL_law_1036 (by decide) ?_
      obtain ⟨v1037, e1037, hf⟩ := ob hf
      refine r_laload dL_law_1037 e1037 ?_
      refine r_lload 0 dL_law_1038 rfl ?_
      refine r_lcmp dL_law_1040 ?_
      refine r_if_eq (tgt := 1046) dL_law_1041 (by decide) (fun c1041 => ?_) (fun c1041 => ?_)
      · replace hf := (if_pos c1041).symm.trans hf
        exact r_sub [2, 3, 4, 5, 6] rfl (t_L_law_1046 G l hfl hh k23 hk23 _ _ _ _ _ _ hf)
      · replace hf := (if_neg c1041).symm.trans hf
        refine r_iconst (x := (0 : Int32)) dL_law_1044 (by decide) ?_
        obtain ⟨z1045, ez1045, hf⟩ := ob hf
        have hf := Option.some.inj hf
        subst hf
        exact r_zret rfl dL_law_1045 ez1045
    · replace hf := (if_neg c1032).symm.trans hf
      exact r_sub [2, 3, 4, 5, 6] rfl (t_L_law_1046 G l hfl hh k23 hk23 _ _ _ _ _ _ hf)
  · replace hf := (if_neg c1025).symm.trans hf
    refine r_iconst (x := (0 : Int32)) dL_law_1028 (by decide) ?_
    obtain ⟨z1029, ez1029, hf⟩ := ob hf
    have hf := Option.some.inj hf
    subst hf
    exact r_zret rfl dL_law_1029 ez1029
def f_L_law_1049 (sL : Nat) (sxs : Nat → Int32) (k23 : Hp → (Option Nat) → (Option Nat) → (Option Nat) → Int32 → Option (Int32 × Hp)) (h : Hp) (x1 : Option Nat) (x2 : Option Nat) (x3 : Option Nat) (x4 : Int32) : Option (Int32 × Hp) :=
    (sI sL sxs (x4 + (1 : Int32))).bind fun v1055 =>
    (sI sL sxs (x4 + (2 : Int32))).bind fun v1061 =>
    (sI sL sxs (x4 + (3 : Int32))).bind fun v1067 =>
    (sI sL sxs (x4 + (4 : Int32))).bind fun v1073 =>
    (sI sL sxs (x4 + (5 : Int32))).bind fun v1079 =>
    (rcv h x1 10).bind fun a1080 =>
    (f_X10_copy h a1080 v1055 v1061 v1067 v1073 v1079).bind fun q1080 =>
    (sI sL sxs (x4 + (1 : Int32))).bind fun v1089 =>
    (sI sL sxs (x4 + (2 : Int32))).bind fun v1095 =>
    (sI sL sxs (x4 + (3 : Int32))).bind fun v1101 =>
    (sI sL sxs (x4 + (4 : Int32))).bind fun v1107 =>
    (sI sL sxs (x4 + (5 : Int32))).bind fun v1113 =>
    (rcv q1080.2 x2 11).bind fun a1114 =>
    (f_X11_copy q1080.2 a1114 v1089 v1095 v1101 v1107 v1113).bind fun q1114 =>
    if q1080.1 = q1114.1 then
      f_L_law_1172 sL sxs k23 q1114.2 x1 x2 x3 x4
    else
      (okZ (0 : Int32)).bind fun z1121 => some (z1121, q1114.2)
set_option maxRecDepth 100000 in
set_option maxHeartbeats 4000000 in
theorem t_L_law_1049 (G : Gx) (l : Launch) (hfl : l.stackTraces = false) (hh : List (Nat × Nat × Nat × Nat)) (k23 : Hp → (Option Nat) → (Option Nat) → (Option Nat) → Int32 → Option (Int32 × Hp)) (hk23 : ∀ (h : Hp) (x1 : Option Nat) (x2 : Option Nat) (x3 : Option Nat) (x4 : Int32) (r : (Int32 × Hp)), k23 h x1 x2 x3 x4 = some r → RJ G l (M_L_law hh) (some (vI r.1)) r.2 23 [(0, vX G.2.2.2.2.2.1), (1, vR x1), (2, vR x2), (3, vR x3), (4, vI x4)] [] h) (h : Hp) (x1 : Option Nat) (x2 : Option Nat) (x3 : Option Nat) (x4 : Int32) (r : (Int32 × Hp)) (hf : f_L_law_1049 G.2.2.2.2.2.2.1 G.2.2.2.2.2.2.2 k23 h x1 x2 x3 x4 = some r) : RJ G l (M_L_law hh) (some (vI r.1)) r.2 1049 [(0, vX G.2.2.2.2.2.1), (1, vR x1), (2, vR x2), (3, vR x3), (4, vI x4)] [] h := by
  unfold f_L_law_1049 at hf
  refine r_aload_n 1 dL_law_1049 rfl ?_
  refine r_aload_x 0 dL_law_1050 rfl ?_
  refine r_iload 4 dL_law_1051 rfl ?_
  refine r_iconst (x := (1 : Int32)) dL_law_1053 (by decide) ?_
  refine r_iadd dL_law_1054 ?_
  obtain ⟨v1055, e1055, hf⟩ := ob hf
  refine r_sload dL_law_1055 e1055 ?_
  refine r_aload_x 0 dL_law_1056 rfl ?_
  refine r_iload 4 dL_law_1057 rfl ?_
  refine r_iconst (x := (2 : Int32)) dL_law_1059 (by decide) ?_
  refine r_iadd dL_law_1060 ?_
  obtain ⟨v1061, e1061, hf⟩ := ob hf
  refine r_sload dL_law_1061 e1061 ?_
  refine r_aload_x 0 dL_law_1062 rfl ?_
  refine r_iload 4 dL_law_1063 rfl ?_
  refine r_pc (pc' := 1065) rfl ?_
  refine r_iconst (x := (3 : Int32)) dL_law_1065 (by decide) ?_
  refine r_iadd dL_law_1066 ?_
  obtain ⟨v1067, e1067, hf⟩ := ob hf
  refine r_sload dL_law_1067 e1067 ?_
  refine r_aload_x 0 dL_law_1068 rfl ?_
  refine r_iload 4 dL_law_1069 rfl ?_
  refine r_iconst (x := (4 : Int32)) dL_law_1071 (by decide) ?_
  refine r_iadd dL_law_1072 ?_
  obtain ⟨v1073, e1073, hf⟩ := ob hf
  refine r_sload dL_law_1073 e1073 ?_
  refine r_aload_x 0 dL_law_1074 rfl ?_
  refine r_iload 4 dL_law_1075 rfl ?_
  refine r_iconst (x := (5 : Int32)) dL_law_1077 (by decide) ?_
  refine r_iadd dL_law_1078 ?_
  obtain ⟨v1079, e1079, hf⟩ := ob hf
  refine r_sload dL_law_1079 e1079 ?_
  obtain ⟨a1080, ea1080, hf⟩ := ob hf
  obtain ⟨q1080, e1080, hf⟩ := ob hf
  refine r_callV (y := yX10_copy) (ci := 10) (avs := [vI v1055, vI v1061, vI v1067, vI v1073, vI v1079]) dL_law_1080 rfl kw_3_103 kw_3_104 kw_3_105 kw_1_1 kw_3_106 oky_X10_copy ⟨Nat.le_of_ble_eq_true rfl, Nat.le_of_ble_eq_true rfl⟩ rfl (Nat.le_of_ble_eq_true rfl) ea1080 (k_X10_copy G l e1080) ?_
  refine r_pc (pc' := 1083) rfl ?_
  refine r_aload_n 2 dL_law_1083 rfl ?_
  refine r_aload_x 0 dL_law_1084 rfl ?_
  refine r_iload 4 dL_law_1085 rfl ?_
  refine r_iconst (x := (1 : Int32)) dL_law_1087 (by decide) ?_
  refine r_iadd dL_law_1088 ?_
  obtain ⟨v1089, e1089, hf⟩ := ob hf
  refine r_sload dL_law_1089 e1089 ?_
  refine r_aload_x 0 dL_law_1090 rfl ?_
  refine r_iload 4 dL_law_1091 rfl ?_
  refine r_iconst (x := (2 : Int32)) dL_law_1093 (by decide) ?_
  refine r_iadd dL_law_1094 ?_
  obtain ⟨v1095, e1095, hf⟩ := ob hf
  refine r_sload dL_law_1095 e1095 ?_
  refine r_aload_x 0 dL_law_1096 rfl ?_
  refine r_iload 4 dL_law_1097 rfl ?_
  refine r_iconst (x := (3 : Int32)) dL_law_1099 (by decide) ?_
  refine r_pc (pc' := 1100) rfl ?_
  refine r_iadd dL_law_1100 ?_
  obtain ⟨v1101, e1101, hf⟩ := ob hf
  refine r_sload dL_law_1101 e1101 ?_
  refine r_aload_x 0 dL_law_1102 rfl ?_
  refine r_iload 4 dL_law_1103 rfl ?_
  refine r_iconst (x := (4 : Int32)) dL_law_1105 (by decide) ?_
  refine r_iadd dL_law_1106 ?_
  obtain ⟨v1107, e1107, hf⟩ := ob hf
  refine r_sload dL_law_1107 e1107 ?_
  refine r_aload_x 0 dL_law_1108 rfl ?_
  refine r_iload 4 dL_law_1109 rfl ?_
  refine r_iconst (x := (5 : Int32)) dL_law_1111 (by decide) ?_
  refine r_iadd dL_law_1112 ?_
  obtain ⟨v1113, e1113, hf⟩ := ob hf
  refine r_sload dL_law_1113 e1113 ?_
  obtain ⟨a1114, ea1114, hf⟩ := ob hf
  obtain ⟨q1114, e1114, hf⟩ := ob hf
  refine r_callV (y := yX11_copy) (ci := 11) (avs := [vI v1089, vI v1095, vI v1101, vI v1107, vI v1113]) dL_law_1114 rfl kw_5_181 kw_5_182 kw_5_183 kw_1_5 kw_5_184 oky_X11_copy ⟨Nat.le_of_ble_eq_true rfl, Nat.le_of_ble_eq_true rfl⟩ rfl (Nat.le_of_ble_eq_true rfl) ea1114 (k_X11_copy G l e1114) ?_
  refine r_icmp_eq (tgt := 1172) dL_law_1117 (by decide) (fun c1117 => ?_) (fun c1117 => ?_)
  · replace hf := (if_pos c1117).symm.trans hf
    exact r_sub [0, 1, 2, 3, 4] rfl (t_L_law_1172 G l hfl hh k23 hk23 _ _ _ _ _ _ hf)
  · replace hf := (if_neg c1117).symm.trans hf
    refine r_iconst (x := (0 : Int32)) dL_law_1120 (by decide) ?_
    obtain ⟨z1121, ez1121, hf⟩ := ob hf
    have hf := Option.some.inj hf
    subst hf
    exact r_zret rfl dL_law_1121 ez1121
def f_L_law_1122 (sL : Nat) (sxs : Nat → Int32) (k23 : Hp → (Option Nat) → (Option Nat) → (Option Nat) → Int32 → Option (Int32 × Hp)) (h : Hp) (x1 : Option Nat) (x2 : Option Nat) (x3 : Option Nat) (x4 : Int32) : Option (Int32 × Hp) :=
    (sI sL sxs (x4 + (1 : Int32))).bind fun v1128 =>
    (rcv h x1 10).bind fun a1129 =>
    (f_X10_tax h a1129 v1128).bind fun v1129 =>
    (sI sL sxs (x4 + (1 : Int32))).bind fun v1138 =>
    (rcv h x2 11).bind fun a1139 =>
    (f_X11_tax h a1139 v1138).bind fun q1139 =>
    if v1129 = q1139.1 then
      f_L_law_1172 sL sxs k23 q1139.2 x1 x2 x3 x4
    else
      (okZ (0 : Int32)).bind fun z1146 => some (z1146, q1139.2)
set_option maxRecDepth 100000 in
set_option maxHeartbeats 4000000 in
theorem t_L_law_1122 (G : Gx) (l : Launch) (hfl : l.stackTraces = false) (hh : List (Nat × Nat × Nat × Nat)) (k23 : Hp → (Option Nat) → (Option Nat) → (Option Nat) → Int32 → Option (Int32 × Hp)) (hk23 : ∀ (h : Hp) (x1 : Option Nat) (x2 : Option Nat) (x3 : Option Nat) (x4 : Int32) (r : (Int32 × Hp)), k23 h x1 x2 x3 x4 = some r → RJ G l (M_L_law hh) (some (vI r.1)) r.2 23 [(0, vX G.2.2.2.2.2.1), (1, vR x1), (2, vR x2), (3, vR x3), (4, vI x4)] [] h) (h : Hp) (x1 : Option Nat) (x2 : Option Nat) (x3 : Option Nat) (x4 : Int32) (r : (Int32 × Hp)) (hf : f_L_law_1122 G.2.2.2.2.2.2.1 G.2.2.2.2.2.2.2 k23 h x1 x2 x3 x4 = some r) : RJ G l (M_L_law hh) (some (vI r.1)) r.2 1122 [(0, vX G.2.2.2.2.2.1), (1, vR x1), (2, vR x2), (3, vR x3), (4, vI x4)] [] h := by
  unfold f_L_law_1122 at hf
  refine r_aload_n 1 dL_law_1122 rfl ?_
  refine r_aload_x 0 dL_law_1123 rfl ?_
  refine r_iload 4 dL_law_1124 rfl ?_
  refine r_iconst (x := (1 : Int32)) dL_law_1126 (by decide) ?_
  refine r_iadd dL_law_1127 ?_
  obtain ⟨v1128, e1128, hf⟩ := ob hf
  refine r_sload dL_law_1128 e1128 ?_
  obtain ⟨a1129, ea1129, hf⟩ := ob hf
  obtain ⟨v1129, e1129, hf⟩ := ob hf
  refine r_callV (y := yX10_tax) (ci := 10) (avs := [vI v1128]) dL_law_1129 rfl kw_3_114 kw_3_115 kw_3_116 kw_1_1 kw_3_117 oky_X10_tax ⟨Nat.le_of_ble_eq_true rfl, Nat.le_of_ble_eq_true rfl⟩ rfl (Nat.le_of_ble_eq_true rfl) ea1129 (k_X10_tax G l e1129) ?_
  refine r_aload_n 2 dL_law_1132 rfl ?_
  refine r_aload_x 0 dL_law_1133 rfl ?_
  refine r_iload 4 dL_law_1134 rfl ?_
  refine r_iconst (x := (1 : Int32)) dL_law_1136 (by decide) ?_
  refine r_iadd dL_law_1137 ?_
  obtain ⟨v1138, e1138, hf⟩ := ob hf
  refine r_sload dL_law_1138 e1138 ?_
  refine r_pc (pc' := 1139) rfl ?_
  obtain ⟨a1139, ea1139, hf⟩ := ob hf
  obtain ⟨q1139, e1139, hf⟩ := ob hf
  refine r_callV (y := yX11_tax) (ci := 11) (avs := [vI v1138]) dL_law_1139 rfl kw_5_185 kw_5_186 kw_5_187 kw_1_5 kw_5_188 oky_X11_tax ⟨Nat.le_of_ble_eq_true rfl, Nat.le_of_ble_eq_true rfl⟩ rfl (Nat.le_of_ble_eq_true rfl) ea1139 (k_X11_tax G l e1139) ?_
  refine r_icmp_eq (tgt := 1172) dL_law_1142 (by decide) (fun c1142 => ?_) (fun c1142 => ?_)
  · replace hf := (if_pos c1142).symm.trans hf
    exact r_sub [0, 1, 2, 3, 4] rfl (t_L_law_1172 G l hfl hh k23 hk23 _ _ _ _ _ _ hf)
  · replace hf := (if_neg c1142).symm.trans hf
    refine r_iconst (x := (0 : Int32)) dL_law_1145 (by decide) ?_
    obtain ⟨z1146, ez1146, hf⟩ := ob hf
    have hf := Option.some.inj hf
    subst hf
    exact r_zret rfl dL_law_1146 ez1146
def f_L_law_1147 (sL : Nat) (sxs : Nat → Int32) (k23 : Hp → (Option Nat) → (Option Nat) → (Option Nat) → Int32 → Option (Int32 × Hp)) (h : Hp) (x1 : Option Nat) (x2 : Option Nat) (x3 : Option Nat) (x4 : Int32) : Option (Int32 × Hp) :=
    (sI sL sxs (x4 + (1 : Int32))).bind fun v1153 =>
    (rcv h x1 10).bind fun a1154 =>
    (f_X10_toss h a1154 v1153).bind fun q1154 =>
    (sI sL sxs (x4 + (1 : Int32))).bind fun v1163 =>
    (rcv q1154.2 x2 11).bind fun a1164 =>
    (f_X11_toss q1154.2 a1164 v1163).bind fun q1164 =>
    if q1154.1 = q1164.1 then
      f_L_law_1172 sL sxs k23 q1164.2 x1 x2 x3 x4
    else
      (okZ (0 : Int32)).bind fun z1171 => some (z1171, q1164.2)
set_option maxRecDepth 100000 in
set_option maxHeartbeats 4000000 in
theorem t_L_law_1147 (G : Gx) (l : Launch) (hfl : l.stackTraces = false) (hh : List (Nat × Nat × Nat × Nat)) (k23 : Hp → (Option Nat) → (Option Nat) → (Option Nat) → Int32 → Option (Int32 × Hp)) (hk23 : ∀ (h : Hp) (x1 : Option Nat) (x2 : Option Nat) (x3 : Option Nat) (x4 : Int32) (r : (Int32 × Hp)), k23 h x1 x2 x3 x4 = some r → RJ G l (M_L_law hh) (some (vI r.1)) r.2 23 [(0, vX G.2.2.2.2.2.1), (1, vR x1), (2, vR x2), (3, vR x3), (4, vI x4)] [] h) (h : Hp) (x1 : Option Nat) (x2 : Option Nat) (x3 : Option Nat) (x4 : Int32) (r : (Int32 × Hp)) (hf : f_L_law_1147 G.2.2.2.2.2.2.1 G.2.2.2.2.2.2.2 k23 h x1 x2 x3 x4 = some r) : RJ G l (M_L_law hh) (some (vI r.1)) r.2 1147 [(0, vX G.2.2.2.2.2.1), (1, vR x1), (2, vR x2), (3, vR x3), (4, vI x4)] [] h := by
  unfold f_L_law_1147 at hf
  refine r_aload_n 1 dL_law_1147 rfl ?_
  refine r_aload_x 0 dL_law_1148 rfl ?_
  refine r_iload 4 dL_law_1149 rfl ?_
  refine r_iconst (x := (1 : Int32)) dL_law_1151 (by decide) ?_
  refine r_iadd dL_law_1152 ?_
  obtain ⟨v1153, e1153, hf⟩ := ob hf
  refine r_sload dL_law_1153 e1153 ?_
  obtain ⟨a1154, ea1154, hf⟩ := ob hf
  obtain ⟨q1154, e1154, hf⟩ := ob hf
  refine r_callV (y := yX10_toss) (ci := 10) (avs := [vI v1153]) dL_law_1154 rfl kw_3_148 kw_3_149 kw_3_150 kw_1_1 kw_3_151 oky_X10_toss ⟨Nat.le_of_ble_eq_true rfl, Nat.le_of_ble_eq_true rfl⟩ rfl (Nat.le_of_ble_eq_true rfl) ea1154 (k_X10_toss G l hfl e1154) ?_
  refine r_aload_n 2 dL_law_1157 rfl ?_
  refine r_aload_x 0 dL_law_1158 rfl ?_
  refine r_iload 4 dL_law_1159 rfl ?_
  refine r_iconst (x := (1 : Int32)) dL_law_1161 (by decide) ?_
  refine r_iadd dL_law_1162 ?_
  obtain ⟨v1163, e1163, hf⟩ := ob hf
  refine r_sload dL_law_1163 e1163 ?_
  refine r_pc (pc' := 1164) rfl ?_
  obtain ⟨a1164, ea1164, hf⟩ := ob hf
  obtain ⟨q1164, e1164, hf⟩ := ob hf
  refine r_callV (y := yX11_toss) (ci := 11) (avs := [vI v1163]) dL_law_1164 rfl kw_5_192 kw_5_193 kw_5_194 kw_1_5 kw_5_195 oky_X11_toss ⟨Nat.le_of_ble_eq_true rfl, Nat.le_of_ble_eq_true rfl⟩ rfl (Nat.le_of_ble_eq_true rfl) ea1164 (k_X11_toss G l e1164) ?_
  refine r_icmp_eq (tgt := 1172) dL_law_1167 (by decide) (fun c1167 => ?_) (fun c1167 => ?_)
  · replace hf := (if_pos c1167).symm.trans hf
    exact r_sub [0, 1, 2, 3, 4] rfl (t_L_law_1172 G l hfl hh k23 hk23 _ _ _ _ _ _ hf)
  · replace hf := (if_neg c1167).symm.trans hf
    refine r_iconst (x := (0 : Int32)) dL_law_1170 (by decide) ?_
    obtain ⟨z1171, ez1171, hf⟩ := ob hf
    have hf := Option.some.inj hf
    subst hf
    exact r_zret rfl dL_law_1171 ez1171
def f_L_law_23 (sL : Nat) (sxs : Nat → Int32) : Nat → Hp → (Option Nat) → (Option Nat) → (Option Nat) → Int32 → Option (Int32 × Hp)
  | 0, _, _, _, _, _ => none
  | n + 1, h, x1, x2, x3, x4 =>
    if ((Int32.ofNat sL) - (6 : Int32)) < x4 then
      (okZ (1 : Int32)).bind fun z1179 => some (z1179, h)
    else
      (sI sL sxs x4).bind fun v36 =>
      if (v36 &&& (31 : Int32)) = (0 : Int32) then
        f_L_law_176 sL sxs (f_L_law_23 sL sxs n) h x1 x2 x3 x4
      else
      if (v36 &&& (31 : Int32)) = (1 : Int32) then
        f_L_law_201 sL sxs (f_L_law_23 sL sxs n) h x1 x2 x3 x4
      else
      if (v36 &&& (31 : Int32)) = (2 : Int32) then
        f_L_law_238 sL sxs (f_L_law_23 sL sxs n) h x1 x2 x3 x4
      else
      if (v36 &&& (31 : Int32)) = (3 : Int32) then
        f_L_law_263 sL sxs (f_L_law_23 sL sxs n) h x1 x2 x3 x4
      else
      if (v36 &&& (31 : Int32)) = (4 : Int32) then
        f_L_law_288 sL sxs (f_L_law_23 sL sxs n) h x1 x2 x3 x4
      else
      if (v36 &&& (31 : Int32)) = (5 : Int32) then
        f_L_law_325 sL sxs (f_L_law_23 sL sxs n) h x1 x2 x3 x4
      else
      if (v36 &&& (31 : Int32)) = (6 : Int32) then
        f_L_law_350 sL sxs (f_L_law_23 sL sxs n) h x1 x2 x3 x4
      else
      if (v36 &&& (31 : Int32)) = (7 : Int32) then
        f_L_law_387 sL sxs (f_L_law_23 sL sxs n) h x1 x2 x3 x4
      else
      if (v36 &&& (31 : Int32)) = (8 : Int32) then
        f_L_law_424 sL sxs (f_L_law_23 sL sxs n) h x1 x2 x3 x4
      else
      if (v36 &&& (31 : Int32)) = (9 : Int32) then
        f_L_law_449 sL sxs (f_L_law_23 sL sxs n) h x1 x2 x3 x4
      else
      if (v36 &&& (31 : Int32)) = (10 : Int32) then
        f_L_law_462 sL sxs (f_L_law_23 sL sxs n) h x1 x2 x3 x4
      else
      if (v36 &&& (31 : Int32)) = (11 : Int32) then
        f_L_law_499 sL sxs (f_L_law_23 sL sxs n) h x1 x2 x3 x4
      else
      if (v36 &&& (31 : Int32)) = (12 : Int32) then
        f_L_law_536 sL sxs (f_L_law_23 sL sxs n) h x1 x2 x3 x4
      else
      if (v36 &&& (31 : Int32)) = (13 : Int32) then
        f_L_law_549 sL sxs (f_L_law_23 sL sxs n) h x1 x2 x3 x4
      else
      if (v36 &&& (31 : Int32)) = (14 : Int32) then
        f_L_law_562 sL sxs (f_L_law_23 sL sxs n) h x1 x2 x3 x4
      else
      if (v36 &&& (31 : Int32)) = (15 : Int32) then
        f_L_law_611 sL sxs (f_L_law_23 sL sxs n) h x1 x2 x3 x4
      else
      if (v36 &&& (31 : Int32)) = (16 : Int32) then
        f_L_law_636 sL sxs (f_L_law_23 sL sxs n) h x1 x2 x3 x4
      else
      if (v36 &&& (31 : Int32)) = (17 : Int32) then
        f_L_law_661 sL sxs (f_L_law_23 sL sxs n) h x1 x2 x3 x4
      else
      if (v36 &&& (31 : Int32)) = (18 : Int32) then
        f_L_law_698 sL sxs (f_L_law_23 sL sxs n) h x1 x2 x3 x4
      else
      if (v36 &&& (31 : Int32)) = (19 : Int32) then
        f_L_law_747 sL sxs (f_L_law_23 sL sxs n) h x1 x2 x3 x4
      else
      if (v36 &&& (31 : Int32)) = (20 : Int32) then
        f_L_law_772 sL sxs (f_L_law_23 sL sxs n) h x1 x2 x3 x4
      else
      if (v36 &&& (31 : Int32)) = (21 : Int32) then
        f_L_law_785 sL sxs (f_L_law_23 sL sxs n) h x1 x2 x3 x4
      else
      if (v36 &&& (31 : Int32)) = (22 : Int32) then
        f_L_law_798 sL sxs (f_L_law_23 sL sxs n) h x1 x2 x3 x4
      else
      if (v36 &&& (31 : Int32)) = (23 : Int32) then
        f_L_law_823 sL sxs (f_L_law_23 sL sxs n) h x1 x2 x3 x4
      else
      if (v36 &&& (31 : Int32)) = (24 : Int32) then
        f_L_law_884 sL sxs (f_L_law_23 sL sxs n) h x1 x2 x3 x4
      else
      if (v36 &&& (31 : Int32)) = (25 : Int32) then
        f_L_law_933 sL sxs (f_L_law_23 sL sxs n) h x1 x2 x3 x4
      else
      if (v36 &&& (31 : Int32)) = (26 : Int32) then
        f_L_law_982 sL sxs (f_L_law_23 sL sxs n) h x1 x2 x3 x4
      else
      if (v36 &&& (31 : Int32)) = (27 : Int32) then
        f_L_law_1049 sL sxs (f_L_law_23 sL sxs n) h x1 x2 x3 x4
      else
      if (v36 &&& (31 : Int32)) = (28 : Int32) then
        f_L_law_1122 sL sxs (f_L_law_23 sL sxs n) h x1 x2 x3 x4
      else
      if (v36 &&& (31 : Int32)) = (29 : Int32) then
        f_L_law_1147 sL sxs (f_L_law_23 sL sxs n) h x1 x2 x3 x4
      else
        f_L_law_1172 sL sxs (f_L_law_23 sL sxs n) h x1 x2 x3 x4
set_option maxRecDepth 100000 in
set_option maxHeartbeats 4000000 in
theorem t_L_law_23 (G : Gx) (l : Launch) (hfl : l.stackTraces = false) (hh : List (Nat × Nat × Nat × Nat))  : ∀ (n : Nat) (h : Hp) (x1 : Option Nat) (x2 : Option Nat) (x3 : Option Nat) (x4 : Int32) (r : (Int32 × Hp)), f_L_law_23 G.2.2.2.2.2.2.1 G.2.2.2.2.2.2.2 n h x1 x2 x3 x4 = some r → RJ G l (M_L_law hh) (some (vI r.1)) r.2 23 [(0, vX G.2.2.2.2.2.1), (1, vR x1), (2, vR x2), (3, vR x3), (4, vI x4)] [] h := by
  intro n
  induction n with
  | zero =>
    intro h x1 x2 x3 x4 r hf
    rw [f_L_law_23] at hf
    cases hf
  | succ n ih =>
    intro h x1 x2 x3 x4 r hf
    rw [f_L_law_23] at hf
    refine r_iload 4 dL_law_23 rfl ?_
    refine r_aload_x 0 dL_law_25 rfl ?_
    refine r_slen dL_law_26 ?_
    refine r_bipush (x := (6 : Int32)) dL_law_27 (by decide) ?_
    refine r_isub dL_law_29 ?_
    refine r_icmp_gt (tgt := 1178) dL_law_30 (by decide) (fun c30 => ?_) (fun c30 => ?_)
    · replace hf := (if_pos c30).symm.trans hf
      refine r_iconst (x := (1 : Int32)) dL_law_1178 (by decide) ?_
      obtain ⟨z1179, ez1179, hf⟩ := ob hf
      have hf := Option.some.inj hf
      subst hf
      exact r_zret rfl dL_law_1179 ez1179
    · replace hf := (if_neg c30).symm.trans hf
      refine r_aload_x 0 dL_law_33 rfl ?_
      refine r_iload 4 dL_law_34 rfl ?_
      obtain ⟨v36, e36, hf⟩ := ob hf
      refine r_sload dL_law_36 e36 ?_
      refine r_bipush (x := (31 : Int32)) dL_law_37 (by decide) ?_
      refine r_iand dL_law_39 ?_
      by_cases c40_0 : (v36 &&& (31 : Int32)) = (0 : Int32)
      · replace hf := (if_pos c40_0).symm.trans hf
        refine r_tabIn (off := 136) (tgt := 176) dL_law_40 (by rw [c40_0]; decide +kernel) (by rw [c40_0]; decide +kernel) (by rw [c40_0]; decide +kernel) (by decide) ?_
        exact r_sub [0, 1, 2, 3, 4] rfl (t_L_law_176 G l hfl hh (f_L_law_23 G.2.2.2.2.2.2.1 G.2.2.2.2.2.2.2 n) ih _ _ _ _ _ _ hf)
      · replace hf := (if_neg c40_0).symm.trans hf
        by_cases c40_1 : (v36 &&& (31 : Int32)) = (1 : Int32)
        · replace hf := (if_pos c40_1).symm.trans hf
          refine r_tabIn (off := 161) (tgt := 201) dL_law_40 (by rw [c40_1]; decide +kernel) (by rw [c40_1]; decide +kernel) (by rw [c40_1]; decide +kernel) (by decide) ?_
          exact r_sub [0, 1, 2, 3, 4] rfl (t_L_law_201 G l hfl hh (f_L_law_23 G.2.2.2.2.2.2.1 G.2.2.2.2.2.2.2 n) ih _ _ _ _ _ _ hf)
        · replace hf := (if_neg c40_1).symm.trans hf
          by_cases c40_2 : (v36 &&& (31 : Int32)) = (2 : Int32)
          · replace hf := (if_pos c40_2).symm.trans hf
            refine r_tabIn (off := 198) (tgt := 238) dL_law_40 (by rw [c40_2]; decide +kernel) (by rw [c40_2]; decide +kernel) (by rw [c40_2]; decide +kernel) (by decide) ?_
            exact r_sub [0, 1, 2, 3, 4] rfl (t_L_law_238 G l hfl hh (f_L_law_23 G.2.2.2.2.2.2.1 G.2.2.2.2.2.2.2 n) ih _ _ _ _ _ _ hf)
          · replace hf := (if_neg c40_2).symm.trans hf
            by_cases c40_3 : (v36 &&& (31 : Int32)) = (3 : Int32)
            · replace hf := (if_pos c40_3).symm.trans hf
              refine r_tabIn (off := 223) (tgt := 263) dL_law_40 (by rw [c40_3]; decide +kernel) (by rw [c40_3]; decide +kernel) (by rw [c40_3]; decide +kernel) (by decide) ?_
              exact r_sub [0, 1, 2, 3, 4] rfl (t_L_law_263 G l hfl hh (f_L_law_23 G.2.2.2.2.2.2.1 G.2.2.2.2.2.2.2 n) ih _ _ _ _ _ _ hf)
            · replace hf := (if_neg c40_3).symm.trans hf
              by_cases c40_4 : (v36 &&& (31 : Int32)) = (4 : Int32)
              · replace hf := (if_pos c40_4).symm.trans hf
                refine r_tabIn (off := 248) (tgt := 288) dL_law_40 (by rw [c40_4]; decide +kernel) (by rw [c40_4]; decide +kernel) (by rw [c40_4]; decide +kernel) (by decide) ?_
                exact r_sub [0, 1, 2, 3, 4] rfl (t_L_law_288 G l hfl hh (f_L_law_23 G.2.2.2.2.2.2.1 G.2.2.2.2.2.2.2 n) ih _ _ _ _ _ _ hf)
              · replace hf := (if_neg c40_4).symm.trans hf
                by_cases c40_5 : (v36 &&& (31 : Int32)) = (5 : Int32)
                · replace hf := (if_pos c40_5).symm.trans hf
                  refine r_tabIn (off := 285) (tgt := 325) dL_law_40 (by rw [c40_5]; decide +kernel) (by rw [c40_5]; decide +kernel) (by rw [c40_5]; decide +kernel) (by decide) ?_
                  exact r_sub [0, 1, 2, 3, 4] rfl (t_L_law_325 G l hfl hh (f_L_law_23 G.2.2.2.2.2.2.1 G.2.2.2.2.2.2.2 n) ih _ _ _ _ _ _ hf)
                · replace hf := (if_neg c40_5).symm.trans hf
                  by_cases c40_6 : (v36 &&& (31 : Int32)) = (6 : Int32)
                  · replace hf := (if_pos c40_6).symm.trans hf
                    refine r_tabIn (off := 310) (tgt := 350) dL_law_40 (by rw [c40_6]; decide +kernel) (by rw [c40_6]; decide +kernel) (by rw [c40_6]; decide +kernel) (by decide) ?_
                    exact r_sub [0, 1, 2, 3, 4] rfl (t_L_law_350 G l hfl hh (f_L_law_23 G.2.2.2.2.2.2.1 G.2.2.2.2.2.2.2 n) ih _ _ _ _ _ _ hf)
                  · replace hf := (if_neg c40_6).symm.trans hf
                    by_cases c40_7 : (v36 &&& (31 : Int32)) = (7 : Int32)
                    · replace hf := (if_pos c40_7).symm.trans hf
                      refine r_tabIn (off := 347) (tgt := 387) dL_law_40 (by rw [c40_7]; decide +kernel) (by rw [c40_7]; decide +kernel) (by rw [c40_7]; decide +kernel) (by decide) ?_
                      exact r_sub [0, 1, 2, 3, 4] rfl (t_L_law_387 G l hfl hh (f_L_law_23 G.2.2.2.2.2.2.1 G.2.2.2.2.2.2.2 n) ih _ _ _ _ _ _ hf)
                    · replace hf := (if_neg c40_7).symm.trans hf
                      by_cases c40_8 : (v36 &&& (31 : Int32)) = (8 : Int32)
                      · replace hf := (if_pos c40_8).symm.trans hf
                        refine r_tabIn (off := 384) (tgt := 424) dL_law_40 (by rw [c40_8]; decide +kernel) (by rw [c40_8]; decide +kernel) (by rw [c40_8]; decide +kernel) (by decide) ?_
                        exact r_sub [0, 1, 2, 3, 4] rfl (t_L_law_424 G l hfl hh (f_L_law_23 G.2.2.2.2.2.2.1 G.2.2.2.2.2.2.2 n) ih _ _ _ _ _ _ hf)
                      · replace hf := (if_neg c40_8).symm.trans hf
                        by_cases c40_9 : (v36 &&& (31 : Int32)) = (9 : Int32)
                        · replace hf := (if_pos c40_9).symm.trans hf
                          refine r_tabIn (off := 409) (tgt := 449) dL_law_40 (by rw [c40_9]; decide +kernel) (by rw [c40_9]; decide +kernel) (by rw [c40_9]; decide +kernel) (by decide) ?_
                          exact r_sub [0, 1, 2, 3, 4] rfl (t_L_law_449 G l hfl hh (f_L_law_23 G.2.2.2.2.2.2.1 G.2.2.2.2.2.2.2 n) ih _ _ _ _ _ _ hf)
                        · replace hf := (if_neg c40_9).symm.trans hf
                          by_cases c40_10 : (v36 &&& (31 : Int32)) = (10 : Int32)
                          · replace hf := (if_pos c40_10).symm.trans hf
                            refine r_tabIn (off := 422) (tgt := 462) dL_law_40 (by rw [c40_10]; decide +kernel) (by rw [c40_10]; decide +kernel) (by rw [c40_10]; decide +kernel) (by decide) ?_
                            exact r_sub [0, 1, 2, 3, 4] rfl (t_L_law_462 G l hfl hh (f_L_law_23 G.2.2.2.2.2.2.1 G.2.2.2.2.2.2.2 n) ih _ _ _ _ _ _ hf)
                          · replace hf := (if_neg c40_10).symm.trans hf
                            by_cases c40_11 : (v36 &&& (31 : Int32)) = (11 : Int32)
                            · replace hf := (if_pos c40_11).symm.trans hf
                              refine r_tabIn (off := 459) (tgt := 499) dL_law_40 (by rw [c40_11]; decide +kernel) (by rw [c40_11]; decide +kernel) (by rw [c40_11]; decide +kernel) (by decide) ?_
                              exact r_sub [0, 1, 2, 3, 4] rfl (t_L_law_499 G l hfl hh (f_L_law_23 G.2.2.2.2.2.2.1 G.2.2.2.2.2.2.2 n) ih _ _ _ _ _ _ hf)
                            · replace hf := (if_neg c40_11).symm.trans hf
                              by_cases c40_12 : (v36 &&& (31 : Int32)) = (12 : Int32)
                              · replace hf := (if_pos c40_12).symm.trans hf
                                refine r_tabIn (off := 496) (tgt := 536) dL_law_40 (by rw [c40_12]; decide +kernel) (by rw [c40_12]; decide +kernel) (by rw [c40_12]; decide +kernel) (by decide) ?_
                                exact r_sub [0, 1, 2, 3, 4] rfl (t_L_law_536 G l hfl hh (f_L_law_23 G.2.2.2.2.2.2.1 G.2.2.2.2.2.2.2 n) ih _ _ _ _ _ _ hf)
                              · replace hf := (if_neg c40_12).symm.trans hf
                                by_cases c40_13 : (v36 &&& (31 : Int32)) = (13 : Int32)
                                · replace hf := (if_pos c40_13).symm.trans hf
                                  refine r_tabIn (off := 509) (tgt := 549) dL_law_40 (by rw [c40_13]; decide +kernel) (by rw [c40_13]; decide +kernel) (by rw [c40_13]; decide +kernel) (by decide) ?_
                                  exact r_sub [0, 1, 2, 3, 4] rfl (t_L_law_549 G l hfl hh (f_L_law_23 G.2.2.2.2.2.2.1 G.2.2.2.2.2.2.2 n) ih _ _ _ _ _ _ hf)
                                · replace hf := (if_neg c40_13).symm.trans hf
                                  by_cases c40_14 : (v36 &&& (31 : Int32)) = (14 : Int32)
                                  · replace hf := (if_pos c40_14).symm.trans hf
                                    refine r_tabIn (off := 522) (tgt := 562) dL_law_40 (by rw [c40_14]; decide +kernel) (by rw [c40_14]; decide +kernel) (by rw [c40_14]; decide +kernel) (by decide) ?_
                                    exact r_sub [0, 1, 2, 3, 4] rfl (t_L_law_562 G l hfl hh (f_L_law_23 G.2.2.2.2.2.2.1 G.2.2.2.2.2.2.2 n) ih _ _ _ _ _ _ hf)
                                  · replace hf := (if_neg c40_14).symm.trans hf
                                    by_cases c40_15 : (v36 &&& (31 : Int32)) = (15 : Int32)
                                    · replace hf := (if_pos c40_15).symm.trans hf
                                      refine r_tabIn (off := 571) (tgt := 611) dL_law_40 (by rw [c40_15]; decide +kernel) (by rw [c40_15]; decide +kernel) (by rw [c40_15]; decide +kernel) (by decide) ?_
                                      exact r_sub [0, 1, 2, 3, 4] rfl (t_L_law_611 G l hfl hh (f_L_law_23 G.2.2.2.2.2.2.1 G.2.2.2.2.2.2.2 n) ih _ _ _ _ _ _ hf)
                                    · replace hf := (if_neg c40_15).symm.trans hf
                                      by_cases c40_16 : (v36 &&& (31 : Int32)) = (16 : Int32)
                                      · replace hf := (if_pos c40_16).symm.trans hf
                                        refine r_tabIn (off := 596) (tgt := 636) dL_law_40 (by rw [c40_16]; decide +kernel) (by rw [c40_16]; decide +kernel) (by rw [c40_16]; decide +kernel) (by decide) ?_
                                        exact r_sub [0, 1, 2, 3, 4] rfl (t_L_law_636 G l hfl hh (f_L_law_23 G.2.2.2.2.2.2.1 G.2.2.2.2.2.2.2 n) ih _ _ _ _ _ _ hf)
                                      · replace hf := (if_neg c40_16).symm.trans hf
                                        by_cases c40_17 : (v36 &&& (31 : Int32)) = (17 : Int32)
                                        · replace hf := (if_pos c40_17).symm.trans hf
                                          refine r_tabIn (off := 621) (tgt := 661) dL_law_40 (by rw [c40_17]; decide +kernel) (by rw [c40_17]; decide +kernel) (by rw [c40_17]; decide +kernel) (by decide) ?_
                                          exact r_sub [0, 1, 2, 3, 4] rfl (t_L_law_661 G l hfl hh (f_L_law_23 G.2.2.2.2.2.2.1 G.2.2.2.2.2.2.2 n) ih _ _ _ _ _ _ hf)
                                        · replace hf := (if_neg c40_17).symm.trans hf
                                          by_cases c40_18 : (v36 &&& (31 : Int32)) = (18 : Int32)
                                          · replace hf := (if_pos c40_18).symm.trans hf
                                            refine r_tabIn (off := 658) (tgt := 698) dL_law_40 (by rw [c40_18]; decide +kernel) (by rw [c40_18]; decide +kernel) (by rw [c40_18]; decide +kernel) (by decide) ?_
                                            exact r_sub [0, 1, 2, 3, 4] rfl (t_L_law_698 G l hfl hh (f_L_law_23 G.2.2.2.2.2.2.1 G.2.2.2.2.2.2.2 n) ih _ _ _ _ _ _ hf)
                                          · replace hf := (if_neg c40_18).symm.trans hf
                                            by_cases c40_19 : (v36 &&& (31 : Int32)) = (19 : Int32)
                                            · replace hf := (if_pos c40_19).symm.trans hf
                                              refine r_tabIn (off := 707) (tgt := 747) dL_law_40 (by rw [c40_19]; decide +kernel) (by rw [c40_19]; decide +kernel) (by rw [c40_19]; decide +kernel) (by decide) ?_
                                              exact r_sub [0, 1, 2, 3, 4] rfl (t_L_law_747 G l hfl hh (f_L_law_23 G.2.2.2.2.2.2.1 G.2.2.2.2.2.2.2 n) ih _ _ _ _ _ _ hf)
                                            · replace hf := (if_neg c40_19).symm.trans hf
                                              by_cases c40_20 : (v36 &&& (31 : Int32)) = (20 : Int32)
                                              · replace hf := (if_pos c40_20).symm.trans hf
                                                refine r_tabIn (off := 732) (tgt := 772) dL_law_40 (by rw [c40_20]; decide +kernel) (by rw [c40_20]; decide +kernel) (by rw [c40_20]; decide +kernel) (by decide) ?_
                                                exact r_sub [0, 1, 2, 3, 4] rfl (t_L_law_772 G l hfl hh (f_L_law_23 G.2.2.2.2.2.2.1 G.2.2.2.2.2.2.2 n) ih _ _ _ _ _ _ hf)
                                              · replace hf := (if_neg c40_20).symm.trans hf
                                                by_cases c40_21 : (v36 &&& (31 : Int32)) = (21 : Int32)
                                                · replace hf := (if_pos c40_21).symm.trans hf
                                                  refine r_tabIn (off := 745) (tgt := 785) dL_law_40 (by rw [c40_21]; decide +kernel) (by rw [c40_21]; decide +kernel) (by rw [c40_21]; decide +kernel) (by decide) ?_
                                                  exact r_sub [0, 1, 2, 3, 4] rfl (t_L_law_785 G l hfl hh (f_L_law_23 G.2.2.2.2.2.2.1 G.2.2.2.2.2.2.2 n) ih _ _ _ _ _ _ hf)
                                                · replace hf := (if_neg c40_21).symm.trans hf
                                                  by_cases c40_22 : (v36 &&& (31 : Int32)) = (22 : Int32)
                                                  · replace hf := (if_pos c40_22).symm.trans hf
                                                    refine r_tabIn (off := 758) (tgt := 798) dL_law_40 (by rw [c40_22]; decide +kernel) (by rw [c40_22]; decide +kernel) (by rw [c40_22]; decide +kernel) (by decide) ?_
                                                    exact r_sub [0, 1, 2, 3, 4] rfl (t_L_law_798 G l hfl hh (f_L_law_23 G.2.2.2.2.2.2.1 G.2.2.2.2.2.2.2 n) ih _ _ _ _ _ _ hf)
                                                  · replace hf := (if_neg c40_22).symm.trans hf
                                                    by_cases c40_23 : (v36 &&& (31 : Int32)) = (23 : Int32)
                                                    · replace hf := (if_pos c40_23).symm.trans hf
                                                      refine r_tabIn (off := 783) (tgt := 823) dL_law_40 (by rw [c40_23]; decide +kernel) (by rw [c40_23]; decide +kernel) (by rw [c40_23]; decide +kernel) (by decide) ?_
                                                      exact r_sub [0, 1, 2, 3, 4] rfl (t_L_law_823 G l hfl hh (f_L_law_23 G.2.2.2.2.2.2.1 G.2.2.2.2.2.2.2 n) ih _ _ _ _ _ _ hf)
                                                    · replace hf := (if_neg c40_23).symm.trans hf
                                                      by_cases c40_24 : (v36 &&& (31 : Int32)) = (24 : Int32)
                                                      · replace hf := (if_pos c40_24).symm.trans hf
                                                        refine r_tabIn (off := 844) (tgt := 884) dL_law_40 (by rw [c40_24]; decide +kernel) (by rw [c40_24]; decide +kernel) (by rw [c40_24]; decide +kernel) (by decide) ?_
                                                        exact r_sub [0, 1, 2, 3, 4] rfl (t_L_law_884 G l hfl hh (f_L_law_23 G.2.2.2.2.2.2.1 G.2.2.2.2.2.2.2 n) ih _ _ _ _ _ _ hf)
                                                      · replace hf := (if_neg c40_24).symm.trans hf
                                                        by_cases c40_25 : (v36 &&& (31 : Int32)) = (25 : Int32)
                                                        · replace hf := (if_pos c40_25).symm.trans hf
                                                          refine r_tabIn (off := 893) (tgt := 933) dL_law_40 (by rw [c40_25]; decide +kernel) (by rw [c40_25]; decide +kernel) (by rw [c40_25]; decide +kernel) (by decide) ?_
                                                          exact r_sub [0, 1, 2, 3, 4] rfl (t_L_law_933 G l hfl hh (f_L_law_23 G.2.2.2.2.2.2.1 G.2.2.2.2.2.2.2 n) ih _ _ _ _ _ _ hf)
                                                        · replace hf := (if_neg c40_25).symm.trans hf
                                                          by_cases c40_26 : (v36 &&& (31 : Int32)) = (26 : Int32)
                                                          · replace hf := (if_pos c40_26).symm.trans hf
                                                            refine r_tabIn (off := 942) (tgt := 982) dL_law_40 (by rw [c40_26]; decide +kernel) (by rw [c40_26]; decide +kernel) (by rw [c40_26]; decide +kernel) (by decide) ?_
                                                            exact r_sub [0, 1, 2, 3, 4] rfl (t_L_law_982 G l hfl hh (f_L_law_23 G.2.2.2.2.2.2.1 G.2.2.2.2.2.2.2 n) ih _ _ _ _ _ _ hf)
                                                          · replace hf := (if_neg c40_26).symm.trans hf
                                                            by_cases c40_27 : (v36 &&& (31 : Int32)) = (27 : Int32)
                                                            · replace hf := (if_pos c40_27).symm.trans hf
                                                              refine r_tabIn (off := 1009) (tgt := 1049) dL_law_40 (by rw [c40_27]; decide +kernel) (by rw [c40_27]; decide +kernel) (by rw [c40_27]; decide +kernel) (by decide) ?_
                                                              exact r_sub [0, 1, 2, 3, 4] rfl (t_L_law_1049 G l hfl hh (f_L_law_23 G.2.2.2.2.2.2.1 G.2.2.2.2.2.2.2 n) ih _ _ _ _ _ _ hf)
                                                            · replace hf := (if_neg c40_27).symm.trans hf
                                                              by_cases c40_28 : (v36 &&& (31 : Int32)) = (28 : Int32)
                                                              · replace hf := (if_pos c40_28).symm.trans hf
                                                                refine r_tabIn (off := 1082) (tgt := 1122) dL_law_40 (by rw [c40_28]; decide +kernel) (by rw [c40_28]; decide +kernel) (by rw [c40_28]; decide +kernel) (by decide) ?_
                                                                exact r_sub [0, 1, 2, 3, 4] rfl (t_L_law_1122 G l hfl hh (f_L_law_23 G.2.2.2.2.2.2.1 G.2.2.2.2.2.2.2 n) ih _ _ _ _ _ _ hf)
                                                              · replace hf := (if_neg c40_28).symm.trans hf
                                                                by_cases c40_29 : (v36 &&& (31 : Int32)) = (29 : Int32)
                                                                · replace hf := (if_pos c40_29).symm.trans hf
                                                                  refine r_tabIn (off := 1107) (tgt := 1147) dL_law_40 (by rw [c40_29]; decide +kernel) (by rw [c40_29]; decide +kernel) (by rw [c40_29]; decide +kernel) (by decide) ?_
                                                                  exact r_sub [0, 1, 2, 3, 4] rfl (t_L_law_1147 G l hfl hh (f_L_law_23 G.2.2.2.2.2.2.1 G.2.2.2.2.2.2.2 n) ih _ _ _ _ _ _ hf)
                                                                · replace hf := (if_neg c40_29).symm.trans hf
                                                                  refine r_tabOut (tgt := 1172) dL_law_40 (by have g0 := lv_neT (k := (0 : Int32)) c40_0 (by decide : ((0 : Int32)).toInt = 0); have g1 := lv_neT (k := (1 : Int32)) c40_1 (by decide : ((1 : Int32)).toInt = 1); have g2 := lv_neT (k := (2 : Int32)) c40_2 (by decide : ((2 : Int32)).toInt = 2); have g3 := lv_neT (k := (3 : Int32)) c40_3 (by decide : ((3 : Int32)).toInt = 3); have g4 := lv_neT (k := (4 : Int32)) c40_4 (by decide : ((4 : Int32)).toInt = 4); have g5 := lv_neT (k := (5 : Int32)) c40_5 (by decide : ((5 : Int32)).toInt = 5); have g6 := lv_neT (k := (6 : Int32)) c40_6 (by decide : ((6 : Int32)).toInt = 6); have g7 := lv_neT (k := (7 : Int32)) c40_7 (by decide : ((7 : Int32)).toInt = 7); have g8 := lv_neT (k := (8 : Int32)) c40_8 (by decide : ((8 : Int32)).toInt = 8); have g9 := lv_neT (k := (9 : Int32)) c40_9 (by decide : ((9 : Int32)).toInt = 9); have g10 := lv_neT (k := (10 : Int32)) c40_10 (by decide : ((10 : Int32)).toInt = 10); have g11 := lv_neT (k := (11 : Int32)) c40_11 (by decide : ((11 : Int32)).toInt = 11); have g12 := lv_neT (k := (12 : Int32)) c40_12 (by decide : ((12 : Int32)).toInt = 12); have g13 := lv_neT (k := (13 : Int32)) c40_13 (by decide : ((13 : Int32)).toInt = 13); have g14 := lv_neT (k := (14 : Int32)) c40_14 (by decide : ((14 : Int32)).toInt = 14); have g15 := lv_neT (k := (15 : Int32)) c40_15 (by decide : ((15 : Int32)).toInt = 15); have g16 := lv_neT (k := (16 : Int32)) c40_16 (by decide : ((16 : Int32)).toInt = 16); have g17 := lv_neT (k := (17 : Int32)) c40_17 (by decide : ((17 : Int32)).toInt = 17); have g18 := lv_neT (k := (18 : Int32)) c40_18 (by decide : ((18 : Int32)).toInt = 18); have g19 := lv_neT (k := (19 : Int32)) c40_19 (by decide : ((19 : Int32)).toInt = 19); have g20 := lv_neT (k := (20 : Int32)) c40_20 (by decide : ((20 : Int32)).toInt = 20); have g21 := lv_neT (k := (21 : Int32)) c40_21 (by decide : ((21 : Int32)).toInt = 21); have g22 := lv_neT (k := (22 : Int32)) c40_22 (by decide : ((22 : Int32)).toInt = 22); have g23 := lv_neT (k := (23 : Int32)) c40_23 (by decide : ((23 : Int32)).toInt = 23); have g24 := lv_neT (k := (24 : Int32)) c40_24 (by decide : ((24 : Int32)).toInt = 24); have g25 := lv_neT (k := (25 : Int32)) c40_25 (by decide : ((25 : Int32)).toInt = 25); have g26 := lv_neT (k := (26 : Int32)) c40_26 (by decide : ((26 : Int32)).toInt = 26); have g27 := lv_neT (k := (27 : Int32)) c40_27 (by decide : ((27 : Int32)).toInt = 27); have g28 := lv_neT (k := (28 : Int32)) c40_28 (by decide : ((28 : Int32)).toInt = 28); have g29 := lv_neT (k := (29 : Int32)) c40_29 (by decide : ((29 : Int32)).toInt = 29); omega) (by decide) ?_
                                                                  exact r_sub [0, 1, 2, 3, 4] rfl (t_L_law_1172 G l hfl hh (f_L_law_23 G.2.2.2.2.2.2.1 G.2.2.2.2.2.2.2 n) ih _ _ _ _ _ _ hf)
def f_L_law (h : Hp) (sL : Nat) (sxs : Nat → Int32) : Option (Int32 × Hp) :=
    (f_X10_init (h ++ [eO 10 [vR none, vR none, vR none, vI 0, vR none]]) h.length).bind fun h4 =>
    (f_X11_init (h4 ++ [eO 11 [vI 0, vI 0, vI 0, vR none, vR none, vR none, vI 0, vR none, vR none, vI 0, vI 0, vI 0, vI 0, vI 0, vR none, vR none, vR none, vR none, vR none, vR none, vI 0, vI 0, vI 0, vR none, vR none, vR none, vR none, vI 0, vR none, vR none, vR none, vR none, vR none, vR none, vR none]]) h4.length).bind fun h12 =>
    f_L_law_23 sL sxs 10000 (h12 ++ [eL 1 (fun _ => 0)]) (some h.length) (some h4.length) (some h12.length) (0 : Int32)
set_option maxRecDepth 100000 in
set_option maxHeartbeats 4000000 in
theorem k_L_law (G : Gx) (l : Launch) (hfl : l.stackTraces = false) (hh : List (Nat × Nat × Nat × Nat)) {h : Hp} {r : (Int32 × Hp)} (hf : f_L_law h G.2.2.2.2.2.2.1 G.2.2.2.2.2.2.2 = some r) : RJ G l (M_L_law hh) (some (vI r.1)) r.2 0 [(0, vX G.2.2.2.2.2.1)] [] h := by
  unfold f_L_law at hf
  refine r_new (ci := 10) (fs := [vR none, vR none, vR none, vI 0, vR none]) tyX10 dL_law_0 rfl ic_10 tyX10_ok kw_1_22 kw_1_23 kw_1_1 rfl (dv_10 _) ?_
  refine r_dup dL_law_3 rfl ?_
  obtain ⟨h4, e4, hf⟩ := ob hf
  refine r_callI (y := yX10_init) (avs := []) dL_law_4 kw_1_24 kw_1_25 kw_1_1 kw_1_26 rfl oky_X10_init ⟨Nat.le_of_ble_eq_true rfl, Nat.le_of_ble_eq_true rfl⟩ rfl (Nat.le_of_ble_eq_true rfl) (k_X10_init G l e4) ?_
  refine r_astore_n (lv' := [(1, vR (some h.length)), (0, vX G.2.2.2.2.2.1)]) dL_law_7 (Nat.le_of_ble_eq_true rfl) rfl ?_
  refine r_new (ci := 11) (fs := [vI 0, vI 0, vI 0, vR none, vR none, vR none, vI 0, vR none, vR none, vI 0, vI 0, vI 0, vI 0, vI 0, vR none, vR none, vR none, vR none, vR none, vR none, vI 0, vI 0, vI 0, vR none, vR none, vR none, vR none, vI 0, vR none, vR none, vR none, vR none, vR none, vR none, vR none]) tyX11 dL_law_8 rfl ic_11 tyX11_ok kw_4_49 kw_4_50 kw_1_5 rfl (dv_11 _) ?_
  refine r_dup dL_law_11 rfl ?_
  obtain ⟨h12, e12, hf⟩ := ob hf
  refine r_callI (y := yX11_init) (avs := []) dL_law_12 kw_4_51 kw_4_52 kw_1_5 kw_4_53 rfl oky_X11_init ⟨Nat.le_of_ble_eq_true rfl, Nat.le_of_ble_eq_true rfl⟩ rfl (Nat.le_of_ble_eq_true rfl) (k_X11_init G l e12) ?_
  refine r_astore_n (lv' := [(2, vR (some h4.length)), (1, vR (some h.length)), (0, vX G.2.2.2.2.2.1)]) dL_law_15 (Nat.le_of_ble_eq_true rfl) rfl ?_
  refine r_iconst (x := (1 : Int32)) dL_law_16 (by decide) ?_
  refine r_newL (n := 1) dL_law_17 kw_4_161 (by decide) (by decide) (by decide) ?_
  refine r_astore_n (lv' := [(3, vR (some h12.length)), (2, vR (some h4.length)), (1, vR (some h.length)), (0, vX G.2.2.2.2.2.1)]) dL_law_19 (Nat.le_of_ble_eq_true rfl) rfl ?_
  refine r_iconst (x := (0 : Int32)) dL_law_20 (by decide) ?_
  refine r_istore (lv' := [(4, vI (0 : Int32)), (3, vR (some h12.length)), (2, vR (some h4.length)), (1, vR (some h.length)), (0, vX G.2.2.2.2.2.1)]) dL_law_21 (Nat.le_of_ble_eq_true rfl) rfl ?_
  exact r_sub [4, 3, 2, 1, 0] rfl (t_L_law_23 G l hfl hh _ _ _ _ _ _ _ hf)
