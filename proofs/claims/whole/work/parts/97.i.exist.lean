/-! Plans and ways are there. -/
theorem zMax {P : Int → Prop} (h0 : P 0) : ∀ A : Nat, ∃ x : Int, 0 ≤ x ∧ x ≤ A ∧ P x ∧ (x < A → ¬ P (x + 1))
  | 0 => ⟨0, Int.le_refl 0, Int.le_refl 0, h0, fun h => absurd h (by decide)⟩
  | A + 1 => by
    obtain ⟨x, x0, x1, x2, x3⟩ := zMax h0 A
    by_cases c : x < A
    · exact ⟨x, x0, by omega, x2, fun _ => x3 c⟩
    · by_cases p : P (x + 1)
      · exact ⟨x + 1, by omega, by omega, p, fun h => by omega⟩
      · exact ⟨x, x0, by omega, x2, fun _ => p⟩
theorem zMin {P : Int → Prop} : ∀ (A : Nat), (∃ x : Int, 0 ≤ x ∧ x ≤ A ∧ P x) → (∀ x : Int, P x → 0 ≤ x) → ∃ x : Int, P x ∧ ∀ y : Int, P y → x ≤ y
  | 0, ⟨x, x0, x1, hx⟩, hb => ⟨x, hx, fun y hy => by have := hb y hy; omega⟩
  | A + 1, ⟨x, x0, x1, hx⟩, hb => by
    by_cases c : ∃ x : Int, 0 ≤ x ∧ x ≤ A ∧ P x
    · exact zMin A c hb
    · refine ⟨x, hx, fun y hy => ?_⟩
      have h1 := hb y hy
      by_cases hle : x ≤ y
      · exact hle
      · exact absurd ⟨y, h1, by omega, hy⟩ c
section ZX
variable {N : zNet} {n : Nat} {td : Int} {rk pl : Int → Int} {ask : Int → Int → Int}
theorem zPl_ex1 (hinj : ∀ o o' : Int, 0 ≤ o → o < n → 0 ≤ o' → o' < n → rk o = rk o' → o = o') (hask : ∀ o t : Int, 0 ≤ o → o < n → td ≤ t → 0 ≤ t → t < 8 → 0 ≤ ask o t) (t0 : 0 ≤ td) {k o : Int} (o0 : 0 ≤ o) (o1 : o < n) (ho : rk o = k) : ∀ (c : Nat) {w : Int}, td ≤ w → w + c = 8 → (∃ am, zPl N n td rk pl ask am k w ∧ zFeas N (zD n td rk pl am k w)) → ∃ am, zPl N n td rk pl ask am k 8 ∧ zFeas N (zD n td rk pl am k 8)
  | 0, w, w0, w1, h => by
    obtain rfl : w = 8 := by omega
    exact h
  | c + 1, w, w0, w1, ⟨am, h1, h2⟩ => by
    refine zPl_ex1 hinj hask t0 o0 o1 ho c (w := w + 1) (by omega) (by omega) ?_
    have hA := hask o w o0 o1 w0 (by omega) (by omega)
    obtain ⟨x, x0, x1, x2, x3⟩ := zMax (P := fun x => zFeas N (zAt (zD n td rk pl am k w) (8 * pl o + w) x)) (zFeas_mono h2 (fun v _ _ => by unfold zAt; split <;> omega)) (ask o w).toNat
    obtain ⟨am', g1, g2⟩ : ∃ am' : Int → Int → Int, (∀ o' t : Int, 0 ≤ o' → o' < n → td ≤ t → 0 ≤ t → t < 8 → (rk o' < k ∨ (rk o' = k ∧ t < w)) → am o' t = am' o' t) ∧ am' o w = x := ⟨fun a b => if a = o ∧ b = w then x else am a b, fun o' t a0 a1 _ _ _ hc => by
      show _ = if o' = o ∧ t = w then x else am o' t
      rw [if_neg (fun h9 => by rw [h9.1] at hc; omega)], if_pos ⟨rfl, rfl⟩⟩
    have e : zD n td rk pl am' k (w + 1) = zAt (zD n td rk pl am k w) (8 * pl o + w) x := by
      funext v
      have h9 := zD_step (pl := pl) (am := am') hinj o0 o1 w0 (by omega) (show w < 8 by omega) v
      rw [ho, g2] at h9
      rw [h9]
      unfold zAt
      rw [zD_congr g1 v]
    refine ⟨am', zPl_step (o := o) (zPl_congr h1 g1) hinj o0 o1 ho (by rw [g2]; omega) (by rw [e]; exact x2) (fun h9 => ?_), by rw [e]; exact x2⟩
    rw [g2] at h9
    rw [e]
    intro hq
    refine x3 (by omega) (zFeas_mono hq (fun v _ _ => ?_))
    unfold zAt
    split <;> omega
theorem zPl_ex0 (hinj : ∀ o o' : Int, 0 ≤ o → o < n → 0 ≤ o' → o' < n → rk o = rk o' → o = o') (hran : ∀ o : Int, 0 ≤ o → o < n → 0 ≤ rk o ∧ rk o < n) (hask : ∀ o t : Int, 0 ≤ o → o < n → td ≤ t → 0 ≤ t → t < 8 → 0 ≤ ask o t) (t0 : 0 ≤ td) (t8 : td ≤ 8) (hz : zFeas N (fun _ => 0)) : ∀ k : Nat, k ≤ n → ∃ am, zPl N n td rk pl ask am k td ∧ zFeas N (zD n td rk pl am k td)
  | 0, _ => ⟨fun _ _ => 0, zPl_0 (fun o o0 o1 => (hran o o0 o1).1), by
    rw [show zD n td rk pl (fun _ _ => 0) ((0 : Nat) : Int) td = fun _ => 0 from funext (fun v => zD_zero (fun o o0 o1 => (hran o o0 o1).1) (Int.le_refl _) v)]
    exact hz⟩
  | k + 1, hk => by
    have ih := zPl_ex0 hinj hran hask t0 t8 hz k (by omega)
    obtain ⟨o, o0, o1, ho⟩ := zSurj hinj hran (k := (k : Int)) (by omega) (by omega)
    obtain ⟨am, h1, h2⟩ := zPl_ex1 hinj hask t0 o0 o1 ho (8 - td).toNat (Int.le_refl _) (by omega) ih
    have hc : ((k + 1 : Nat) : Int) = (k : Int) + 1 := by omega
    rw [hc]
    refine ⟨am, zPl_next h1, ?_⟩
    have e : zD n td rk pl am ((k : Int) + 1) td = zD n td rk pl am k 8 := funext (fun v => (zD_next (Int.le_refl _) v).symm)
    rw [e]
    exact h2
theorem zPlan_ex (hinj : ∀ o o' : Int, 0 ≤ o → o < n → 0 ≤ o' → o' < n → rk o = rk o' → o = o') (hran : ∀ o : Int, 0 ≤ o → o < n → 0 ≤ rk o ∧ rk o < n) (hask : ∀ o t : Int, 0 ≤ o → o < n → td ≤ t → 0 ≤ t → t < 8 → 0 ≤ ask o t) (t0 : 0 ≤ td) (t8 : td ≤ 8) (hz : zFeas N (fun _ => 0)) : ∃ am, zPlan N n td rk pl ask am ∧ zFeas N (zD n td rk pl am n td) := by
  obtain ⟨am, h1, h2⟩ := zPl_ex0 (N := N) (pl := pl) hinj hran hask t0 t8 hz n (Nat.le_refl n)
  exact ⟨am, zPl_all h1 (fun o o0 o1 => (hran o o0 o1).2), h2⟩
def zWc (N : zNet) (D y : Int → Int) (a : Int) : Prop := (∃ f : Int → Int, zFl N f D ∧ ∀ c : Int, 0 ≤ c → c < 72 → N.1 c = true → zKy c ≤ zKy a → f c = y c) ∧ ∀ f : Int → Int, zFl N f D → (∀ c : Int, 0 ≤ c → c < 72 → N.1 c = true → zKy c < zKy a → f c = y c) → y a ≤ f a
theorem zKy_inj {a c : Int} (a0 : 0 ≤ a) (a1 : a < 72) (c0 : 0 ≤ c) (c1 : c < 72) (h : zKy a = zKy c) : a = c := by unfold zKy at h; omega
theorem zWay_ex {D : Int → Int} (hz : zFeas N D) (hrm : ∀ a : Int, 0 ≤ a → a < 120 → N.1 a = true → N.2.2.2.1 a ≤ 1000) : ∀ K : Nat, ∃ y : Int → Int, (∀ a : Int, 0 ≤ a → a < 72 → N.1 a = true → zKy a < K → zWc N D y a) ∧ ∃ f : Int → Int, zFl N f D ∧ ∀ c : Int, 0 ≤ c → c < 72 → N.1 c = true → zKy c < K → f c = y c
  | 0 => by
    obtain ⟨f, hf⟩ := hz
    exact ⟨fun _ => 0, fun a a0 a1 _ h => by unfold zKy at h; omega, f, hf, fun a a0 a1 _ h => by unfold zKy at h; omega⟩
  | K + 1 => by
    obtain ⟨y, h1, f, h2, h3⟩ := zWay_ex hz hrm K
    by_cases hex : ∃ a : Int, 0 ≤ a ∧ a < 72 ∧ N.1 a = true ∧ zKy a = K
    · obtain ⟨a, a0, a1, hl, hk⟩ := hex
      obtain ⟨x, ⟨g, g1, g2, g3⟩, x2⟩ := zMin (P := fun x => ∃ g : Int → Int, zFl N g D ∧ (∀ c : Int, 0 ≤ c → c < 72 → N.1 c = true → zKy c < K → g c = y c) ∧ g a = x) 1000 ⟨f a, (h2.1 a a0 (by omega) hl).1, by have := (h2.1 a a0 (by omega) hl).2; have := hrm a a0 (by omega) hl; omega, f, h2, h3, rfl⟩ (fun x ⟨g, g1, _, g3⟩ => by rw [← g3]; exact (g1.1 a a0 (by omega) hl).1)
      have hy : ∀ c : Int, 0 ≤ c → c < 72 → zKy c < K → zU y a x c = y c := fun c c0 c1 hc => zU_ne (fun h9 => by rw [h9] at hc; omega)
      have hag : ∀ c : Int, 0 ≤ c → c < 72 → N.1 c = true → zKy c < (K + 1 : Nat) → g c = zU y a x c := fun c c0 c1 hc hkc => by
        by_cases hca : zKy c = K
        · rw [zKy_inj c0 c1 a0 a1 (hca.trans hk.symm), zU_eq rfl]; exact g3
        · rw [hy c c0 c1 (by omega)]; exact g2 c c0 c1 hc (by omega)
      refine ⟨zU y a x, fun b b0 b1 hb hkb => ?_, g, g1, hag⟩
      by_cases hbk : zKy b = K
      · obtain rfl : b = a := zKy_inj b0 b1 a0 a1 (hbk.trans hk.symm)
        refine ⟨⟨g, g1, fun c c0 c1 hc hkc => hag c c0 c1 hc (by omega)⟩, fun f' hf' hag' => ?_⟩
        rw [zU_eq rfl]
        exact x2 _ ⟨f', hf', fun c c0 c1 hc hkc => by rw [hag' c c0 c1 hc (by omega), hy c c0 c1 hkc], rfl⟩
      · obtain ⟨⟨f', q1, q2⟩, q3⟩ := h1 b b0 b1 hb (by omega)
        refine ⟨⟨f', q1, fun c c0 c1 hc hkc => by rw [hy c c0 c1 (by omega)]; exact q2 c c0 c1 hc hkc⟩, fun f'' hf'' hag'' => ?_⟩
        rw [hy b b0 b1 (by omega)]
        exact q3 f'' hf'' (fun c c0 c1 hc hkc => by rw [hag'' c c0 c1 hc hkc, hy c c0 c1 (by omega)])
    · refine ⟨y, fun a a0 a1 hl hk => h1 a a0 a1 hl ?_, f, h2, fun c c0 c1 hc hk => h3 c c0 c1 hc ?_⟩
      · by_cases h9 : zKy a = K
        · exact absurd ⟨a, a0, a1, hl, h9⟩ hex
        · omega
      · by_cases h9 : zKy c = K
        · exact absurd ⟨c, c0, c1, hc, h9⟩ hex
        · omega
end ZX
section SX
variable {σ : sT} {s : Int}
theorem sRk_ran (hw : sWf σ) {o : Int} (o0 : 0 ≤ o) (o1 : o < (σ 3).toNat) : 0 ≤ sRk σ o ∧ sRk σ o < (σ 3).toNat := ⟨zRank_0, zRank_n o0 o1⟩
theorem sFeas0 (hw : sWf σ) (s0 : 0 ≤ s) (s1 : s < 3) : zFeas (sNet σ s) (fun _ => 0) := by
  refine ⟨fun _ => 0, fun a a0 a1 hl => ⟨Int.le_refl 0, ((sNet_zWf hw).1 a a0 a1 hl).2.2⟩, fun v v0 v1 => ?_⟩
  unfold zEx zIn
  rw [sm_zero (fun a a0 a1 => by split; · split <;> split <;> rfl
                                 · rfl), Int.add_zero]
  exact (sSu_bd hw s0 s1 v0 v1).1
theorem sPlan_am (hw : sWf σ) (s0 : 0 ≤ s) (s1 : s < 3) : ∃ am, sPlan σ s am ∧ zFeas (sNet σ s) (zD (σ 3).toNat (σ 0) (sRk σ) (sPo σ) am (σ 3) (σ 0)) := by
  have h3 := hw.1.2.2.2
  obtain ⟨am, h1, h2⟩ := zPlan_ex (N := sNet σ s) (n := (σ 3).toNat) (td := σ 0) (rk := sRk σ) (pl := sPo σ) (ask := sAk σ s) (fun o o' q0 q1 q2 q3 h => zRank_inj q0 q1 q2 q3 h) (fun o o0 o1 => sRk_ran hw o0 o1) (fun o t o0 o1 _ t0 t1 => (sAk_bd hw o0 (by omega) t0 t1).1) hw.1.1.1 hw.1.1.2 (sFeas0 hw s0 s1)
  rw [show (((σ 3).toNat : Nat) : Int) = σ 3 by omega] at h2
  exact ⟨am, h1, h2⟩
theorem sPlan_all (hw : sWf σ) (s0 : 0 ≤ s) (s1 : s < 3) : sPlan σ s (sAm σ s) := by
  obtain ⟨am, h1, -⟩ := sPlan_am hw s0 s1
  exact sAm_plan h1
theorem sAm_bd (hw : sWf σ) (s0 : 0 ≤ s) (s1 : s < 3) {r w : Int} (w0 : 0 ≤ w) (w1 : w < 8) : 0 ≤ sAm σ s r w ∧ sAm σ s r w ≤ 1000 := by
  by_cases h : 0 ≤ r ∧ r < σ 3
  · by_cases h2 : w < σ 0
    · unfold sAm
      rw [if_pos h, if_pos h2]
      exact ((hw.2.2.2.2.1 r h.1 h.2).2.2.2.2.2.2.2.2.2.2 w w0 w1).2.1
    · have h9 := (sPlan_all hw s0 s1 r w h.1 (by have := hw.1.2.2.2; omega) (by omega) w0 w1).1
      have := (sAk_bd (s := s) hw h.1 h.2 w0 w1).2
      omega
  · unfold sAm
    rw [if_neg h]; omega
theorem sFeas_dm (hw : sWf σ) : zFeas (sNet σ 0) (sDm σ (σ 3) (σ 0)) := by
  obtain ⟨am, h1, h2⟩ := sPlan_am (s := 0) hw (by decide) (by decide)
  have h3 := hw.1.2.2.2
  have e : zD (σ 3).toNat (σ 0) (sRk σ) (sPo σ) am (σ 3) (σ 0) = sDm σ (σ 3) (σ 0) := zD_cg (fun _ _ _ => rfl) (fun _ _ _ => rfl) (fun o t o0 o1 t0 t1 t2 => (sAm_eq h3.1 h1 o0 (by omega) t0 t1 t2).symm)
  rw [← e]; exact h2
theorem sWay_all (hw : sWf σ) : zWay (sNet σ 0) (sDm σ (σ 3) (σ 0)) (sWy σ) := by
  obtain ⟨y, h1, -⟩ := zWay_ex (sFeas_dm hw) (sNet_zWf hw).2.2 128
  have h2 : zWay (sNet σ 0) (sDm σ (σ 3) (σ 0)) y := fun a a0 a1 hl => h1 a a0 a1 hl (by unfold zKy; omega)
  exact Classical.epsilon_spec (p := zWay (sNet σ 0) (sDm σ (σ 3) (σ 0))) ⟨y, h2⟩
theorem sSe_bd (hw : sWf σ) {r w : Int} (r0 : 0 ≤ r) (r1 : r < 9) (w0 : 0 ≤ w) (w1 : w < 8) : 0 ≤ sSe σ r w ∧ sSe σ r w ≤ 1000 := by
  unfold sSe
  split
  · exact ((hw.2.2.1 r r0 r1).2 w w0 w1).2
  · split
    · rename_i hl
      obtain ⟨⟨f, f1, f2⟩, -⟩ := sWay_all hw (r * 8 + w) (by omega) (by omega) hl
      have h9 := f2 (r * 8 + w) (by omega) (by omega) hl (Int.le_refl _)
      have h8 := f1.1 (r * 8 + w) (by omega) (by omega) hl
      have h7 := (sNet_zWf (s := 0) hw).2.2 (r * 8 + w) (by omega) (by omega) hl
      omega
    · omega
theorem sSe_cap (hw : sWf σ) {r w : Int} (r0 : 0 ≤ r) (r1 : r < σ 2) (w0 : σ 0 ≤ w) (w1 : w < 8) : sSe σ r w ≤ σ (19 + 11 * r + w) := by
  have hb := hw.1
  have hc := ((hw.2.2.1 r r0 (by omega)).2 w (by omega) w1).1
  unfold sSe
  rw [if_neg (by omega)]
  split
  · rename_i hl
    obtain ⟨⟨f, f1, f2⟩, -⟩ := sWay_all hw (r * 8 + w) (by omega) (by omega) hl
    have h9 := f2 (r * 8 + w) (by omega) (by omega) hl (Int.le_refl _)
    have h8 := (f1.1 (r * 8 + w) (by omega) (by omega) hl).2
    have e : (sNet σ 0).2.2.2.1 (r * 8 + w) = σ (19 + 11 * r + w) := by
      show sRm σ (r * 8 + w) = _
      unfold sRm
      rw [if_pos (by omega), show (r * 8 + w) / 8 = r by omega, show (r * 8 + w) % 8 = w by omega]
    omega
  · exact hc.1
end SX
