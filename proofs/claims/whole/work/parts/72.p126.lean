/-! Pure: what was written is read, the reference. -/
theorem enM_ko {J : List Nat} {tn p : Nat} {m : q_M2} (h : KO tn m) {q : Nat × q_M2} (hq : enM J tn p m = some q) : KO tn q.2 := by
  unfold enM at hq
  split at hq
  · rename_i h1
    simp only [Option.some.injEq] at hq
    rw [← hq]
    refine ⟨insW_srt h.1, insW_all h.2 ⟨smAll_seg h1.2.2.1, by rw [seg_len]; exact h1.1, by rw [seg_len]; exact h1.2.1, h1.2.2.2.2.1, h1.2.2.2.2.2.1⟩ (fun e he => ⟨he.1, he.2.1, he.2.2.1, Nat.le_trans he.2.2.2.1 Nat.left_le_or, Nat.or_lt_two_pow he.2.2.2.2 h1.2.2.2.2.2.1⟩)⟩
  · cases hq
theorem enMs_ko {J : List Nat} {tn : Nat} (n p : Nat) (m : q_M2) (h : KO tn m) {q : Nat × q_M2} (hq : enMs J tn n p m = some q) : KO tn q.2 := by
  induction n generalizing p m with
  | zero => simp only [enMs, Option.some.injEq] at hq; rw [← hq]; exact h
  | succ n ih =>
    rw [enMs] at hq
    cases he : enM J tn p m with
    | none => rw [he] at hq; cases hq
    | some r => rw [he, Option.bind_some] at hq; exact ih _ _ (enM_ko h he) hq
theorem lfM_ko {J : List Nat} {tn : Nat} (n p : Nat) (m : q_M2) (h : KO tn m) {r : q_M2} (hr : lfM J tn n p m = some r) : KO tn r := by
  induction n generalizing p m with
  | zero => simp only [lfM, Option.some.injEq] at hr; rw [← hr]; exact h
  | succ n ih =>
    rw [lfM] at hr
    split at hr
    · cases he : enMs J tn (J.getD p 0) (p + 1) m with
      | none => rw [he] at hr; cases hr
      | some q => rw [he, Option.bind_some] at hr; exact ih _ _ (enMs_ko _ _ _ h he) hr
    · cases hr
theorem trM_ko {J : List Nat} {tn p : Nat} {r : q_M2} (h : trM J tn p = some r) : KO tn r := by
  unfold trM at h
  split at h
  · cases h
  · cases hv : lvO (J.getD p 0) 0 with
    | none => rw [hv] at h; cases h
    | some l => rw [hv, Option.bind_some] at h; exact lfM_ko _ _ [] ⟨srt_nil, fun e he => by simp at he⟩ h
theorem at_sm {J : List Nat} {p : Nat} {w : List Nat} (hw : q_Wd w) (h : q_At J p w) : smAll J p (p + w.length) = true := by
  induction w generalizing p with
  | nil => exact smAll_stop (by simp)
  | cons x r ih =>
    obtain ⟨h1, h2, h3⟩ := at_cons h
    have hx := hw x (by simp)
    have := ih (p := p + 1) (fun y hy => hw y (by simp [hy])) h3
    rw [smAll_step (by simp), h1, List.length_cons, show p + (r.length + 1) = p + 1 + r.length by omega, this, Bool.and_true]
    simp only [isSm, Bool.and_eq_true, decide_eq_true_eq]; exact hx
set_option maxRecDepth 100000 in
theorem enMs_rd {J : List Nat} {p : Nat} {n : Nat} {m : q_M2} (hk : KO n m) (hn : n ≤ 10) (h : q_At J p (lvs m m.length)) {f e : Nat} (hf : f % 4 = 0) (he : e ≤ 4) (hfe : f + e ≤ m.length) (j : Nat) (hj : j ≤ e) (q : Nat) (hq : j < e → q = p + (lvs m (f + j)).length + (hdc m.length (f + j)).length) (hq2 : j = e → q = p + (lvs m (f + j)).length) :
    enMs J n (e - j) q (m.take (f + j)) = some (p + (lvs m (f + e)).length, m.take (f + e)) := by
  by_cases h1 : j < e
  · have hx : f + j < m.length := by omega
    obtain ⟨k1, k2, k3, k4, k5⟩ := hk.at hx
    have k6 := p10 hn k5
    have ha := at_lvs h hx
    obtain ⟨_, a2⟩ := at_app ha
    rw [← hq h1] at a2
    obtain ⟨a3, a4⟩ := at_app a2
    obtain ⟨b1, _, b2⟩ := at_cons a3
    have hw : (wrd (mw m (f + j))).length = (mw m (f + j)).length + 1 := rfl
    rw [hw] at a4
    have hpr := at_pr (by omega) a4
    have hal := at_len a4 (by simp [pr2])
    rw [show (pr2 (mb m (f + j))).length = 2 from rfl] at hal
    rw [← Nat.add_assoc, Nat.add_right_comm] at hpr hal
    have hlast : insW (mw m (f + j)) (mb m (f + j)) (m.take (f + j)) = m.take (f + (j + 1)) := by
      rw [insW_last (fun i hi => ?_), show f + (j + 1) = f + j + 1 by omega, mtake hx]
      rw [List.length_take] at hi
      rw [take_mw (by omega)]
      have := hk.1 i (f + j) (by omega) (by rw [codes_len2]; exact hx)
      rw [codes_ce, codes_ce] at this
      exact this
    have hen : enM J n q (m.take (f + j)) = some (q + 1 + (mw m (f + j)).length + 2, m.take (f + (j + 1))) := by
      unfold enM
      rw [b1, hpr, at_seg b2, hlast, if_pos]
      refine ⟨k2, k3, at_sm k1 b2, by omega, k4, k5, ?_⟩
      rw [List.length_take, List.length_take]; omega
    rw [show e - j = (e - (j + 1)) + 1 by omega, enMs, hen, Option.bind_some]
    have hl1 : (lvs m (f + (j + 1))).length = (lvs m (f + j)).length + (hdc m.length (f + j)).length + ((mw m (f + j)).length + 1 + 2) := by
      rw [show f + (j + 1) = f + j + 1 by omega, lvs_s]
      simp only [List.length_append, hw, show (pr2 (mb m (f + j))).length = 2 from rfl]; omega
    have hqq := hq h1
    exact enMs_rd hk hn h hf he hfe (j + 1) h1 _ (fun h9 => by
      have : hdc m.length (f + (j + 1)) = [] := by unfold hdc; rw [if_neg (by omega)]
      rw [this, List.length_nil]; simp only; omega) (fun h9 => by simp only; omega)
  · rw [show e - j = 0 by omega, enMs, hq2 (by omega), show j = e by omega]
termination_by e - j
decreasing_by all_goals omega
theorem lfM_rd {J : List Nat} {p : Nat} {n : Nat} {m : q_M2} (hk : KO n m) (hn : n ≤ 10) (hl : m.length ≤ 250) (h : q_At J p (lvs m m.length)) (c i : Nat) (hc : i + c = up4 m.length 4) : lfM J n c (p + (lvs m (if 4 * i ≤ m.length then 4 * i else m.length)).length) (m.take (4 * i)) = some m := by
  have hu : up4 m.length 4 = (m.length + 3) / 4 := rfl
  induction c generalizing i with
  | zero =>
    rw [lfM, List.take_of_length_le (by omega)]
  | succ c ih =>
    have h4 : 4 * i < m.length := by omega
    rw [if_pos (by omega), lfM]
    have ha := at_lvs h h4
    have hh : hdc m.length (4 * i) = [if m.length - 4 * i < 4 then m.length - 4 * i else 4] := by unfold hdc; rw [if_pos (by omega)]
    have ha1 := ha
    rw [hh] at ha1
    obtain ⟨b1, _, _⟩ := at_cons ha1
    rw [b1]
    have he : (if m.length - 4 * i < 4 then m.length - 4 * i else 4) ≤ 4 ∧ 4 * i + (if m.length - 4 * i < 4 then m.length - 4 * i else 4) = (if 4 * (i + 1) ≤ m.length then 4 * (i + 1) else m.length) ∧ 4 * i + (if m.length - 4 * i < 4 then m.length - 4 * i else 4) ≤ m.length ∧ 1 ≤ (if m.length - 4 * i < 4 then m.length - 4 * i else 4) := by
      split <;> split <;> omega
    rw [if_pos ⟨he.2.2.2, he.1, by rw [List.length_take]; omega⟩]
    have := enMs_rd hk hn h (f := 4 * i) (e := if m.length - 4 * i < 4 then m.length - 4 * i else 4) (by omega) he.1 he.2.2.1 0 (by omega) (p + (lvs m (4 * i)).length + 1) (fun _ => by simp only [Nat.add_zero, hh, List.length_cons, List.length_nil]) (fun h9 => by omega)
    simp only [Nat.sub_zero, Nat.add_zero] at this
    rw [this, Option.bind_some, he.2.1]
    simp only
    have ht : m.take (if 4 * (i + 1) ≤ m.length then 4 * (i + 1) else m.length) = m.take (4 * (i + 1)) := by
      split
      · rfl
      · rw [List.take_of_length_le (Nat.le_refl _), List.take_of_length_le (by omega)]
    rw [ht]
    exact ih (i + 1) (by omega)
theorem trM_rd {J : List Nat} {p : Nat} {n : Nat} {m : q_M2} (hk : KO n m) (hn : n ≤ 10) (hl : m.length ≤ 250) (h : q_At J p (tree m)) : trM J n p = some m := by
  unfold tree at h
  obtain ⟨h1, _⟩ := at_app h
  obtain ⟨h2, h3⟩ := at_app h1
  obtain ⟨b1, b2, _⟩ := at_cons h2
  have hu : up4 m.length 4 = (m.length + 3) / 4 := rfl
  unfold trM
  rw [if_neg (by omega), b1, ← treeN_4 m.length, lvO_eq (by omega) 0 (by omega), Option.bind_some]
  have := lfM_rd hk hn hl h3 (up4 m.length 4) 0 (by omega)
  rw [hu] at this
  simpa [lvs] using this
/-! names -/
theorem nm6_ext {a b : List Nat} (h : ∀ k, k < 6 → a.getD k 0 = b.getD k 0) : nm6 a = nm6 b := by
  unfold nm6
  rw [h 0 (by omega), h 1 (by omega), h 2 (by omega), h 3 (by omega), h 4 (by omega), h 5 (by omega)]
theorem nm6_self {v : List Nat} (h : v.length = 6) : nm6 v = v := by
  match v, h with
  | [a, b, c, d, e, f], _ => rfl
theorem nm6_get (w : List Nat) {k : Nat} (hk : k < 6) : (nm6 w).getD k 0 = w.getD k 0 := by
  rcases (show k = 0 ∨ k = 1 ∨ k = 2 ∨ k = 3 ∨ k = 4 ∨ k = 5 by omega) with h2 | h2 | h2 | h2 | h2 | h2 <;> subst h2 <;> rfl
set_option maxRecDepth 100000 in
theorem sN_sm {v : List Nat} (n : Nat) {k : Nat} (h1 : n ≤ k) (h2 : k < q_sN v n) : isSm (v.getD k 0) = true := by
  rw [q_sN] at h2
  split at h2
  · rename_i h3
    by_cases h4 : k = n
    · rw [h4]; exact h3.2
    · exact sN_sm (n + 1) (by omega) h2
  · omega
termination_by 6 - n
decreasing_by all_goals omega
set_option maxRecDepth 100000 in
theorem zr_sp {v : List Nat} (k : Nat) (h : zr v k = true) {j : Nat} (h1 : k ≤ j) (h2 : j < 6) : v.getD j 0 = 0 := by
  rw [zr, if_pos (by omega), Bool.and_eq_true, decide_eq_true_eq] at h
  by_cases h4 : j = k
  · rw [h4]; exact h.1
  · exact zr_sp (k + 1) h.2 (by omega) h2
termination_by 6 - k
decreasing_by all_goals omega
set_option maxRecDepth 100000 in
theorem uq_sp {V : List (List Nat)} {t : Nat} (u : Nat) (h : uq V t u = true) {j : Nat} (h1 : u ≤ j) (h2 : j < t) : q_sameK (bd V t) (bd V j) 6 = false := by
  rw [uq, if_pos (by omega), Bool.and_eq_true, Bool.not_eq_true'] at h
  by_cases h4 : j = u
  · rw [h4]; exact h.1
  · exact uq_sp (u + 1) h.2 (by omega) h2
termination_by t - u
decreasing_by all_goals omega
theorem sameK_refl (v : List Nat) (k : Nat) : q_sameK v v k = true := by simp [q_sameK]
theorem sameK_nm (a b : List Nat) : q_sameK (nm6 a) (nm6 b) 6 = q_sameK a b 6 := by
  simp only [sameK_s]
  rw [nm6_get a (by omega), nm6_get a (by omega), nm6_get a (by omega), nm6_get a (by omega), nm6_get a (by omega), nm6_get a (by omega)]
  rw [nm6_get b (by omega), nm6_get b (by omega), nm6_get b (by omega), nm6_get b (by omega), nm6_get b (by omega), nm6_get b (by omega)]
  rfl
/-- the name that six bytes tell -/
def nmM (v : List Nat) : List Nat := v.take (q_sN v 0)
theorem nmM_ok {v : List Nat} (h6 : v.length = 6) (h1 : 0 < q_sN v 0) (h2 : zr v (q_sN v 0) = true) : q_Wd (nmM v) ∧ (nmM v).length ≤ 6 ∧ 0 < (nmM v).length ∧ nm6 (nmM v) = v := by
  have hle := (sN_le v 0 (by omega)).1
  have hl : (nmM v).length = q_sN v 0 := by unfold nmM; rw [List.length_take]; omega
  have hg : ∀ k, k < q_sN v 0 → (nmM v).getD k 0 = v.getD k 0 := fun k hk => by
    unfold nmM
    simp only [List.getD_eq_getElem?_getD]
    rw [List.getElem?_take_of_lt hk]
  refine ⟨?_, by omega, by omega, ?_⟩
  · intro x hx
    obtain ⟨i, hi, he⟩ := List.mem_iff_getElem.mp hx
    have h3 := sN_sm (v := v) 0 (k := i) (by omega) (by omega)
    rw [← hg i (by omega), List.getD_eq_getElem?_getD, List.getElem?_eq_getElem hi, Option.getD_some, he] at h3
    simp only [isSm, Bool.and_eq_true, decide_eq_true_eq] at h3; exact h3
  · rw [← nm6_self h6]
    conv => rhs; rw [← nm6_self h6]
    rw [nm6_self h6]
    have : nm6 (nmM v) = nm6 v := nm6_ext (fun k hk => by
      by_cases h3 : k < q_sN v 0
      · exact hg k h3
      · rw [getD_ge (by omega), zr_sp _ h2 (by omega) hk])
    rw [this, nm6_self h6]
set_option maxRecDepth 100000 in
theorem sN_nm {w : List Nat} (hw : q_Wd w) (hl : w.length ≤ 6) (n : Nat) (hn : n ≤ w.length) : q_sN (nm6 w) n = w.length := by
  rw [q_sN]
  by_cases h1 : n < w.length
  · have := hw.at h1
    rw [if_pos ⟨by omega, by rw [nm6_get w (by omega)]; simp only [isSm, Bool.and_eq_true, decide_eq_true_eq]; exact this⟩]
    exact sN_nm hw hl (n + 1) h1
  · rw [if_neg]
    · omega
    · rintro ⟨h2, h3⟩
      rw [nm6_get w h2, getD_ge (by omega)] at h3
      cases h3
termination_by w.length - n
decreasing_by all_goals omega
set_option maxRecDepth 100000 in
theorem zr_nm {w : List Nat} (n : Nat) (hn : w.length ≤ n) : zr (nm6 w) n = true := by
  rw [zr]
  split
  · rename_i h1
    rw [nm6_get w h1, getD_ge hn, zr_nm (n + 1) (by omega)]; rfl
  · rfl
termination_by 6 - n
decreasing_by all_goals omega
set_option maxRecDepth 100000 in
theorem uq_nm {ns V : List (List Nat)} (hok : NmOk ns) (hd : ns.Nodup) {t : Nat} (ht : t < ns.length) (hV : ∀ u, u ≤ t → bd V u = nm6 (bd ns u)) (u : Nat) : uq V t u = true := by
  rw [uq]
  split
  · rename_i h1
    rw [uq_nm hok hd ht hV (u + 1), Bool.and_true, hV t (Nat.le_refl _), hV u (by omega), sameK_nm]
    have a := hok _ (bd_mem ht)
    have b := hok _ (bd_mem (show u < ns.length by omega))
    rw [sameK_6 a.1 b.1 a.2.1 b.2.1]
    have : ¬ bd ns t = bd ns u := fun h9 => by
      have e1 := nmAt_nodup hd 0 (t := t) ht
      have e2 := nmAt_nodup hd 0 (t := u) (by omega)
      rw [h9, e2] at e1
      simp only [Option.some.injEq] at e1; omega
    rw [decide_eq_false this]; rfl
  · rfl
termination_by t - u
decreasing_by all_goals omega
theorem tn_nm {ns V : List (List Nat)} (hok : NmOk ns) (hd : ns.Nodup) {t : Nat} (ht : t < ns.length) (hV : ∀ u, u ≤ t → bd V u = nm6 (bd ns u)) : tnOk V t = true := by
  have a := hok _ (bd_mem ht)
  unfold tnOk
  rw [hV t (Nat.le_refl _), sN_nm a.1 a.2.1 0 (by omega), zr_nm _ (Nat.le_refl _), uq_nm hok hd ht hV 0, decide_eq_true a.2.2]; rfl
theorem at_seg6 {J : List Nat} {p : Nat} {w : List Nat} (h : q_At J p (nm6 w)) : seg J p 6 = nm6 w := at_seg h
theorem tpm_rd {J : List Nat} {ns bs : List (List Nat)} {ks ws : q_M2} (h : img ns bs ks ws = J) (h255 : ∀ t, t < bs.length → (bd bs t).length ≤ 255) (c t : Nat) (hc : t + c = bs.length) : tpm J c t (2 + 10 * bs.length + (pks bs t).length) (bs.take t) = some (2 + 10 * bs.length + (pks bs bs.length).length, bs) := by
  obtain ⟨_, _, _, a1, a2, _⟩ := at_img h
  induction c generalizing t with
  | zero => rw [tpm, show t = bs.length by omega, List.take_of_length_le (Nat.le_refl _)]
  | succ c ih =>
    have ht : t < bs.length := by omega
    have hb := h255 t ht
    have hpl := pk_len _ hb
    have h1 := at_hdr a1 ht
    obtain ⟨h3, h2⟩ := at_app h1
    obtain ⟨_, h4⟩ := at_app h3
    have hpr := at_pr (by omega) h2
    have hln := at_pr (by omega) h4
    simp only [List.length_append, show (nm6 (bd ns t)).length = 6 from rfl, show ∀ n, (pr2 n).length = 2 from fun n => rfl] at hpr hln
    have hu := upm_pk hb (at_pks a2 ht)
    rw [tpm]
    unfold ln0 pk0
    rw [show 2 + 10 * t + 8 = 2 + 10 * t + (6 + 2) by omega, hpr, hln, hu, Option.bind_some]
    have := ih (t + 1) (by omega)
    rw [take_bs ht, pks, List.length_append, ← Nat.add_assoc] at this
    exact this
theorem sc_img {J : List Nat} {ns bs : List (List Nat)} {ks : q_M2} (hv : VB ns bs ks) (h : img ns bs ks (gwA bs 0 []) = J) : SCo J := by
  obtain ⟨v1, v2, v3, v4, v5, v6, v7, v8⟩ := hv
  obtain ⟨a1, a2, a3, a4, a5, a6⟩ := at_img h
  unfold SCo
  rw [a2]
  have hV : ∀ u, u < bs.length → seg J (2 + 10 * u) 6 = nm6 (bd ns u) := fun u hu => by
    have hx := at_hdr a4 hu
    obtain ⟨h3, _⟩ := at_app hx
    obtain ⟨h4, _⟩ := at_app h3
    exact at_seg6 h4
  refine ⟨a1, v2, v3, fun u hu => ⟨?_, ?_, ?_⟩, 2 + 10 * bs.length + (pks bs bs.length).length, bs, ?_, fun u hu => (v6 u hu).1⟩
  · have := at_len (at_hdr a4 hu) (by simp [nm6])
    simp only [List.length_append, show (nm6 (bd ns u)).length = 6 from rfl, show ∀ n, (pr2 n).length = 2 from fun n => rfl] at this
    omega
  · have hx := at_hdr a4 hu
    obtain ⟨h3, _⟩ := at_app hx
    obtain ⟨_, h4⟩ := at_app h3
    have hb := (v6 u hu).2
    have hln := at_pr (by omega) h4
    rw [show (nm6 (bd ns u)).length = 6 from rfl] at hln
    unfold ln0; omega
  · refine tn_nm v4 v5 (by omega) (fun r hr => ?_)
    rw [Vs_bd J (by omega)]; exact hV r (by omega)
  · have := tpm_rd h (fun t ht => (v6 t ht).2) bs.length 0 (by omega)
    simp only [pks, List.length_nil, Nat.add_zero, List.take_zero] at this
    exact this
