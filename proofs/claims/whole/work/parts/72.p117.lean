/-! Pure: what was written is read, the class. -/
theorem nm6_eq {w : List Nat} (h : w.length ≤ 6) : nm6 w = w ++ List.replicate (6 - w.length) 0 := by
  match w, h with
  | [], _ => rfl
  | [a], _ => rfl
  | [a, b], _ => rfl
  | [a, b, c], _ => rfl
  | [a, b, c, d], _ => rfl
  | [a, b, c, d, e], _ => rfl
  | [a, b, c, d, e, f], _ => rfl
  | _ :: _ :: _ :: _ :: _ :: _ :: _ :: _, h => simp at h
theorem wd_let {w : List Nat} (h : q_Wd w) : ∀ x ∈ w, isLet x = true := fun x hx => by
  have := h x hx
  simp [isLet, isSm]; omega
theorem wd_sm {w : List Nat} (h : q_Wd w) : w.map smL = w := by
  induction w with
  | nil => rfl
  | cons x r ih =>
    have := h x (by simp)
    rw [List.map_cons, ih (fun y hy => h y (by simp [hy]))]
    have : smL x = x := by unfold smL; rw [if_neg (by omega)]
    rw [this]
theorem tw_app {w r : List Nat} (h : ∀ x ∈ w, isLet x = true) : (w ++ r).takeWhile isLet = w ++ r.takeWhile isLet := by
  induction w with
  | nil => rfl
  | cons x w ih =>
    rw [List.cons_append, List.takeWhile_cons_of_pos (h x (by simp)), ih (fun y hy => h y (by simp [hy]))]; rfl
theorem tw_rep (n : Nat) : (List.replicate n 0).takeWhile isLet = [] := by
  cases n with
  | zero => rfl
  | succ n => rw [List.replicate_succ]; rfl
theorem at_run {J : List Nat} {p : Nat} {l : List Nat} (h : q_At J p l) : letRun J p (p + l.length) = l.takeWhile isLet := by
  obtain ⟨r, h⟩ := h
  unfold letRun
  rw [h, show p + l.length - p = l.length by omega, List.take_left]
theorem at_nm {J : List Nat} {p : Nat} {w : List Nat} (hw : q_Wd w) (hl : w.length ≤ 6) (h : q_At J p (nm6 w)) : (letRun J p (p + 6)).map smL = w := by
  have h1 := at_run h
  rw [show (nm6 w).length = 6 from rfl, nm6_eq hl, tw_app (wd_let hw), tw_rep, List.append_nil] at h1
  rw [h1, wd_sm hw]
theorem at_wd {J : List Nat} {p : Nat} {w : List Nat} (hw : q_Wd w) (h : q_At J p w) : (letRun J p (p + w.length)).map smL = w := by
  have h1 := at_run h
  rw [show w.takeWhile isLet = w by have := tw_app (r := []) (wd_let hw); simpa using this] at h1
  rw [h1, wd_sm hw]
theorem at_pr {J : List Nat} {p n : Nat} (hn : n < 65536) (h : q_At J p (pr2 n)) : pr J p = n := by
  obtain ⟨h1, _, h3⟩ := at_cons h
  obtain ⟨h4, _, _⟩ := at_cons h3
  unfold pr
  rw [h1, h4]; omega
theorem lvs_pre (m : q_M2) {x y : Nat} (h : x ≤ y) : ∃ r, lvs m y = lvs m x ++ r := by
  induction y with
  | zero => exact ⟨[], by rw [show x = 0 by omega]; simp⟩
  | succ y ih =>
    by_cases h1 : x = y + 1
    · exact ⟨[], by rw [h1]; simp⟩
    · obtain ⟨r, hr⟩ := ih (by omega)
      exact ⟨r ++ (hdc m.length y ++ (wrd (mw m y) ++ pr2 (mb m y))), by rw [lvs_s, hr]; simp⟩
theorem at_lvs {J : List Nat} {p : Nat} {m : q_M2} (h : q_At J p (lvs m m.length)) {x : Nat} (hx : x < m.length) : q_At J (p + (lvs m x).length) (hdc m.length x ++ (wrd (mw m x) ++ pr2 (mb m x))) := by
  obtain ⟨r, hr⟩ := lvs_pre m (show x + 1 ≤ m.length by omega)
  rw [hr, lvs_s, List.append_assoc] at h
  exact (at_app (at_app h).2).1
theorem insW_last {w : List Nat} {b : Nat} {m : q_M2} (h : ∀ i, i < m.length → enc (mw m i) < enc w) : insW w b m = m ++ [(w, b)] := by
  induction m with
  | nil => rfl
  | cons e r ih =>
    have h0 := h 0 (by simp)
    simp only [mw, List.getD_cons_zero] at h0
    rw [insW, if_pos h0, ih (fun i hi => by
      have := h (i + 1) (by simp only [List.length_cons]; omega)
      simpa only [mw, List.getD_cons_succ] using this)]
    rfl
theorem take_mw {m : q_M2} {x i : Nat} (h : i < x) : mw (m.take x) i = mw m i := by
  simp only [mw, List.getD_eq_getElem?_getD]
  rw [List.getElem?_take_of_lt h]
set_option maxRecDepth 100000 in
theorem ents_rd {J : List Nat} {p : Nat} {n : Nat} {m : q_M2} (hk : KO n m) (hn : n ≤ 10) (h : q_At J p (lvs m m.length)) {f e : Nat} (hf : f % 4 = 0) (he : e ≤ 4) (hfe : f + e ≤ m.length) (j : Nat) (hj : j ≤ e) (q : Nat) (hq : j < e → q = p + (lvs m (f + j)).length + (hdc m.length (f + j)).length) (hq2 : j = e → q = p + (lvs m (f + j)).length) :
    ents J (e - j) q (m.take (f + j)) = some (p + (lvs m (f + e)).length, m.take (f + e)) := by
  by_cases h1 : j < e
  · have hx : f + j < m.length := by omega
    obtain ⟨k1, k2, k3, k4, k5⟩ := hk.at hx
    have k6 := p10 hn k5
    have ha := at_lvs h hx
    obtain ⟨_, a2⟩ := at_app ha
    rw [← hq h1] at a2
    obtain ⟨a3, a4⟩ := at_app a2
    obtain ⟨b1, _, b2⟩ := at_cons a3
    have hw : (wrd (mw m (f + j))).length = (mw m (f + j)).length + 1 := rfl
    rw [hw] at a4
    rw [show e - j = (e - (j + 1)) + 1 by omega, ents, b1, if_neg (by omega)]
    rw [at_wd k1 b2, show q + 1 + (mw m (f + j)).length = q + ((mw m (f + j)).length + 1) by omega, at_pr (by omega) a4]
    have hlast : insW (mw m (f + j)) (mb m (f + j)) (m.take (f + j)) = m.take (f + (j + 1)) := by
      rw [insW_last (fun i hi => ?_), show f + (j + 1) = f + j + 1 by omega, mtake hx]
      rw [List.length_take] at hi
      rw [take_mw (by omega)]
      have := hk.1 i (f + j) (by omega) (by rw [codes_len2]; exact hx)
      rw [codes_ce, codes_ce] at this
      exact this
    rw [hlast]
    have hl1 : (lvs m (f + (j + 1))).length = (lvs m (f + j)).length + (hdc m.length (f + j)).length + ((mw m (f + j)).length + 1 + 2) := by
      rw [show f + (j + 1) = f + j + 1 by omega, lvs_s]
      simp only [List.length_append, hw, show (pr2 (mb m (f + j))).length = 2 from rfl]; omega
    have hqq := hq h1
    exact ents_rd hk hn h hf he hfe (j + 1) h1 _ (fun h9 => by
      have : hdc m.length (f + (j + 1)) = [] := by unfold hdc; rw [if_neg (by omega)]
      rw [this, List.length_nil]; omega) (fun h9 => by omega)
  · rw [show e - j = 0 by omega, ents, hq2 (by omega), show j = e by omega]
termination_by e - j
decreasing_by all_goals omega
theorem lfs_rd {J : List Nat} {p : Nat} {n : Nat} {m : q_M2} (hk : KO n m) (hn : n ≤ 10) (h : q_At J p (lvs m m.length)) (c i : Nat) (hc : i + c = up4 m.length 4) : lfs J c (p + (lvs m (if 4 * i ≤ m.length then 4 * i else m.length)).length) (m.take (4 * i)) = some m := by
  have hu : up4 m.length 4 = (m.length + 3) / 4 := rfl
  induction c generalizing i with
  | zero =>
    rw [lfs, List.take_of_length_le (by omega)]
  | succ c ih =>
    have h4 : 4 * i < m.length := by omega
    rw [if_pos (by omega), lfs]
    have ha := at_lvs h h4
    have hh : hdc m.length (4 * i) = [if m.length - 4 * i < 4 then m.length - 4 * i else 4] := by unfold hdc; rw [if_pos (by omega)]
    have ha1 := ha
    rw [hh] at ha1
    obtain ⟨b1, _, _⟩ := at_cons ha1
    rw [b1]
    have he : (if m.length - 4 * i < 4 then m.length - 4 * i else 4) ≤ 4 ∧ 4 * i + (if m.length - 4 * i < 4 then m.length - 4 * i else 4) = (if 4 * (i + 1) ≤ m.length then 4 * (i + 1) else m.length) ∧ 4 * i + (if m.length - 4 * i < 4 then m.length - 4 * i else 4) ≤ m.length ∧ 1 ≤ (if m.length - 4 * i < 4 then m.length - 4 * i else 4) := by
      split <;> split <;> omega
    rw [if_neg (by omega)]
    have := ents_rd hk hn h (f := 4 * i) (e := if m.length - 4 * i < 4 then m.length - 4 * i else 4) (by omega) he.1 he.2.2.1 0 (by omega) (p + (lvs m (4 * i)).length + 1) (fun _ => by simp only [Nat.add_zero, hh, List.length_cons, List.length_nil]) (fun h9 => by omega)
    simp only [Nat.sub_zero, Nat.add_zero] at this
    rw [this, Option.bind_some, he.2.1]
    simp only
    have ht : m.take (if 4 * (i + 1) ≤ m.length then 4 * (i + 1) else m.length) = m.take (4 * (i + 1)) := by
      split
      · rfl
      · rw [List.take_of_length_le (Nat.le_refl _), List.take_of_length_le (by omega)]
    rw [ht]
    exact ih (i + 1) (by omega)
theorem tr_rd {J : List Nat} {p : Nat} {n : Nat} {m : q_M2} (hk : KO n m) (hn : n ≤ 10) (hl : m.length ≤ 250) (h : q_At J p (tree m)) : trO J p = some m := by
  unfold tree at h
  obtain ⟨h1, _⟩ := at_app h
  obtain ⟨h2, h3⟩ := at_app h1
  obtain ⟨b1, _, _⟩ := at_cons h2
  have hu : up4 m.length 4 = (m.length + 3) / 4 := rfl
  unfold trO
  rw [b1, ← treeN_4 m.length, lvO_eq (by omega) 0 (by omega), Option.bind_some]
  have := lfs_rd hk hn h3 (up4 m.length 4) 0 (by omega)
  rw [hu] at this
  simpa [lvs] using this
theorem at_hdr {J : List Nat} {ns bs : List (List Nat)} {p : Nat} (h : q_At J p (hdr ns bs bs.length bs.length)) {t : Nat} (ht : t < bs.length) : q_At J (p + 10 * t) (nm6 (bd ns t) ++ pr2 (bd bs t).length ++ pr2 (pk (bd bs t)).length) := by
  have pre : ∀ y, t + 1 ≤ y → y ≤ bs.length → ∃ r, hdr ns bs bs.length y = hdr ns bs bs.length (t + 1) ++ r := by
    intro y h1 h2
    induction y with
    | zero => omega
    | succ y ih =>
      by_cases h3 : t = y
      · exact ⟨[], by rw [h3]; simp⟩
      · obtain ⟨r, hr⟩ := ih (by omega) (by omega)
        exact ⟨r ++ (nm6 (bd ns y) ++ pr2 (bd bs y).length ++ pr2 (pk (bd bs y)).length), by rw [hdr_s ns bs (by omega), hr]; simp⟩
  obtain ⟨r, hr⟩ := pre bs.length (by omega) (Nat.le_refl _)
  rw [hr, hdr_s ns bs (by omega), List.append_assoc] at h
  have := (at_app (at_app h).2).1
  rw [hdr_len] at this
  exact this
theorem at_pks {J : List Nat} {bs : List (List Nat)} {p : Nat} (h : q_At J p (pks bs bs.length)) {t : Nat} (ht : t < bs.length) : q_At J (p + (pks bs t).length) (pk (bd bs t)) := by
  have pre : ∀ y, t + 1 ≤ y → ∃ r, pks bs y = pks bs (t + 1) ++ r := by
    intro y h1
    induction y with
    | zero => omega
    | succ y ih =>
      by_cases h3 : t = y
      · exact ⟨[], by rw [h3]; simp⟩
      · obtain ⟨r, hr⟩ := ih (by omega)
        exact ⟨r ++ pk (bd bs y), by rw [pks, hr]; simp⟩
  obtain ⟨r, hr⟩ := pre bs.length (by omega)
  rw [hr, pks, List.append_assoc] at h
  exact (at_app (at_app h).2).1
theorem take_bs {bs : List (List Nat)} {t : Nat} (h : t < bs.length) : bs.take (t + 1) = bs.take t ++ [bd bs t] := by
  rw [List.take_succ_eq_append_getElem h]; simp [bd, List.getD_eq_getElem?_getD, List.getElem?_eq_getElem h]
/-- where an image's pieces stand -/
theorem at_img {J : List Nat} {ns bs : List (List Nat)} {ks ws : q_M2} (h : img ns bs ks ws = J) : J.getD 0 0 = 72 ∧ J.getD 1 0 = bs.length ∧ 2 ≤ J.length ∧ q_At J 2 (hdr ns bs bs.length bs.length) ∧ q_At J (2 + 10 * bs.length) (pks bs bs.length) ∧ q_At J (2 + 10 * bs.length + (pks bs bs.length).length) (tree ks) := by
  have h0 := at_all J
  rw [← h] at h0
  unfold img img0 at h0
  obtain ⟨h1, _⟩ := at_app h0
  obtain ⟨h2, _⟩ := at_app h1
  obtain ⟨h3, h4⟩ := at_app h2
  obtain ⟨h5, h6⟩ := at_app h3
  obtain ⟨h7, h8⟩ := at_app h5
  obtain ⟨a1, a2, a3⟩ := at_cons h7
  obtain ⟨b1, b2, b3⟩ := at_cons a3
  have e : img ns bs ks ws = J := h
  unfold img img0 at e
  rw [e] at a1 b1 b2 h8 h6 h4
  simp only [List.length_append, List.length_cons, List.length_nil, hdr_len] at h8 h6 h4
  exact ⟨a1, b1, by omega, by simpa using h8, by simpa using h6, by simpa using h4⟩
theorem tps_rd {J : List Nat} {ns bs : List (List Nat)} {ks ws : q_M2} (h : img ns bs ks ws = J) (h255 : ∀ t, t < bs.length → (bd bs t).length ≤ 255) (c t : Nat) (hc : t + c = bs.length) : tps J c t (2 + 10 * bs.length + (pks bs t).length) (bs.take t) = some (2 + 10 * bs.length + (pks bs bs.length).length, bs) := by
  obtain ⟨_, _, _, a1, a2, _⟩ := at_img h
  induction c generalizing t with
  | zero => rw [tps, show t = bs.length by omega, List.take_of_length_le (Nat.le_refl _)]
  | succ c ih =>
    have ht : t < bs.length := by omega
    have hb := h255 t ht
    have hpl := pk_len _ hb
    have h1 := at_hdr a1 ht
    obtain ⟨_, h2⟩ := at_app h1
    have hpr := at_pr (by omega) h2
    simp only [List.length_append, show (nm6 (bd ns t)).length = 6 from rfl, show ∀ n, (pr2 n).length = 2 from fun n => rfl] at hpr
    have hu := upk_pk hb (at_pks a2 ht)
    rw [tps, show 2 + 10 * t + 8 = 2 + 10 * t + (6 + 2) by omega, hpr, hu, if_pos rfl]
    have := ih (t + 1) (by omega)
    rw [take_bs ht, pks, List.length_append, ← Nat.add_assoc] at this
    exact this
theorem rd_img {J : List Nat} {ns bs : List (List Nat)} {ks : q_M2} (hv : VB ns bs ks) (h : img ns bs ks (gwA bs 0 []) = J) : rdC J = some (ns, bs, ks) := by
  obtain ⟨v1, v2, v3, v4, v5, v6, v7, v8⟩ := hv
  obtain ⟨_, a2, _, a4, a5, a6⟩ := at_img h
  have h1 := tps_rd h (fun t ht => (v6 t ht).2) bs.length 0 (by omega)
  simp only [pks, List.length_nil, Nat.add_zero, List.take_zero] at h1
  unfold rdC
  rw [a2, if_pos ⟨v2, v3⟩, h1, Option.bind_some]
  simp only
  rw [tr_rd v8 v3 v7 a6]
  simp only [Option.map_some, Option.some.injEq, Prod.mk.injEq, and_true]
  apply List.ext_getElem
  · rw [nmsC_len, v1]
  · intro i h1 h2
    have hi : i < bs.length := by omega
    have hb : bd ns i = ns[i] := by simp [bd, List.getD_eq_getElem?_getD, List.getElem?_eq_getElem h2]
    have hc : bd (nmsC J bs.length) i = (nmsC J bs.length)[i] := by simp [bd, List.getD_eq_getElem?_getD, List.getElem?_eq_getElem h1]
    rw [← hb, ← hc, nmsC_bd J hi]
    have hx := at_hdr a4 hi
    obtain ⟨h3, _⟩ := at_app hx
    obtain ⟨h4, _⟩ := at_app h3
    have hn := v4 _ (bd_mem (show i < ns.length by omega))
    exact at_nm hn.1 hn.2.1 h4
