/-! the law: what holds before the first turn, and a constructor's call beside a world (written by a program of mine) -/
theorem rw_nl0 {n : Nat} (h : n < 2 ^ 30) : Rw n (fun _ => 0) 0 [] := ⟨rfl, Nat.zero_le _, h, fun i hi => absurd hi (Nat.not_lt_zero i)⟩
theorem IvL0 (ba bb : Nat) : IvL ba bb false (-1) 0 (fun _ => 0) 0 false (fun _ => 0) 0 false (fun _ => 0) 0 false (fun _ => 0) 0 false (fun _ => 0) (fun _ => 0) (fun _ => 0) (fun _ => 0) 0 .null .null 0 (-1) 0 0 false false false .null .null 0 (fun _ => 0) 0 false (fun _ => 0) 0 false 0 (fun _ => 0) (fun _ => 0) (fun _ => 0) 0 0 false (fun _ => 0) 0 false (fun _ => 0) 0 false (fun _ => 0) 0 0 (fun _ => 0) (fun _ => 0) (fun _ => 0) 0 false (fun _ => 0) (fun _ => 0) 0 (fun _ => 0) (fun _ => 0) 0 0 (fun _ => 0) (fun _ => 0) (fun _ => 0) 0 false (fun _ => 0) (fun _ => 0) 0 (fun _ => 0) (fun _ => 0) 0 0 0 (fun _ => 0) 0 (-1) 0 0 (fun _ => 0) (fun _ => 0) (fun _ => 0) (fun _ => 0) 0 (fun _ => 0) (fun _ => 0) (fun _ => 0) 0 (fun _ => 0) (fun _ => 0) (fun _ => 0) 0 (fun _ => 0) (fun _ => 0) (fun _ => 0) (fun _ => 0) false false false 0 0 (fun _ => 0) false false 0 0 0 0 (fun _ => 0) false 0 (fun _ => 0) (fun _ => 0) (fun _ => 0) 0 (fun _ => 0) (fun _ => 0) (fun _ => 0) 0 (fun _ => 0) (fun _ => 0) (fun _ => 0) 0 0 (fun _ => 0) 0 (fun _ => 0) 0 (fun _ => 0) 0 (fun _ => 0) 0 (fun _ => 0) 0 4 0 (fun _ => 0) (fun _ => 0) 0 (fun _ => 0) 0 (fun _ => 0) (fun _ => 0) :=
  ⟨⟨[], fun i hi => absurd hi (Nat.not_lt_zero i), rw_nl0 (by decide), rw_nl0 (by decide)⟩, ⟨[], q_By.nil, rfl, rw_nl0 (by decide), rw_nl0 (by decide)⟩, ⟨0, rfl, by decide⟩, ⟨[], fun x hx => by simp at hx, rw_nl0 (by decide), rw_nl0 (by decide)⟩, ⟨0, rfl, by decide⟩, ⟨0, rfl, by decide⟩, rfl, rfl,
   ⟨[], 0, ⟨rw_nl0 (by decide), rfl, by decide, fun i hi => absurd hi (Nat.not_lt_zero i)⟩, ⟨rw_nl0 (by decide), rfl, by decide, fun i hi => absurd hi (Nat.not_lt_zero i)⟩, Or.inl rfl, [], rw_nl0 (by decide)⟩, ⟨[], rw_nl0 (by decide)⟩, ⟨[], rw_nl0 (by decide)⟩, Or.inl ⟨rfl, rfl⟩⟩
theorem nd_of : ∀ l : List Nat, l.Nodup → va_nd l = true
  | [], _ => rfl
  | a :: l, h => by
    have h1 := List.nodup_cons.mp h
    simp only [va_nd, nd_of l h1.2, decide_eq_true h1.1, Bool.and_self]
theorem range_some {X : va_W} {z : Nat × va_E} : (List.range X.length).map (fun i => (X ++ [z])[i]?) = X.map some := by
  apply List.ext_getElem?
  intro i
  by_cases hi : i < X.length
  · simp [hi, List.getElem?_append_left hi]
  · simp [hi]
theorem range_one {X : va_W} {z : Nat × va_E} : (List.range X.length).filterMap (fun i => (X ++ [z])[i]?) = X := by
  have h1 : (List.range X.length).filterMap (fun i => (X ++ [z])[i]?) = ((List.range X.length).map (fun i => (X ++ [z])[i]?)).filterMap id := by
    rw [List.filterMap_map]; rfl
  rw [h1, range_some, List.filterMap_map]
  show X.filterMap some = X
  simp
section CIF
variable {p : Program} {l : Launch} {e : Env} {R : Room} {s : State} {m : MethodId} {args : Array Value} {below : List Frame} {meth : Method} {c : Code} {H : Heap} {locs : List Loc} {cells slots : Nat} {Q : State → Prop}
variable {cc : ByteArray} {pc : Nat} {ls : Array Slot} {rest st0 : List Value} {A : Nat → Prop} {H0 : Heap} {D : va_G} {cl : List vw_C} {tys : List (ClassId × FieldType)}
theorem ct_IF {nL index n maxL b mc ms : Nat} {y : MethodName} {bytes : ByteArray} {rm : Room} {own : String} {As : List Value} {k0 : Cond} {Pw : va_W → Prop} {X : va_W} {z : Nat × va_E}
    (S : CallFix p m c cc nL s args (k0 :: ga) own) (hF : Fm y bytes maxL none n) (hy : y.name = "<init>") (hC : CtN l y (Cond.code y bytes maxL none :: ga) rm D cl tys (.ref b :: As) [z] Pw mc ms)
    (m1 : Cond.methodLink own index y ∈ ga) (m2 : Cond.instanceMethod y ∈ ga)
    (hR : rm.frames + 1 ≤ R.frames ∧ 8 + (maxL + 11) + rm.locals ≤ R.locals) (hrc : rm.cells = mc) (hrs : rm.slots = ms) (hcs : cells + mc ≤ R.cells ∧ slots + ms ≤ R.slots)
    (hK : va_K D cl tys s) (hN : nw s) (hP : va_P D cl (X ++ [z]) H) (hD : va_D A (X ++ [z])) (hS : va_S A H0 H locs) (hA : ∀ q, H0.size ≤ q → A q)
    (hn : As.length = n) (hsize : ls.size = nL) (hst : st0 = As.reverse ++ .ref b :: rest) (hW : (rest.map fun v => v.category).sum ≤ 8) (hdg : decode cc pc = .ok (.invokespecial index, 3))
    (kk : ∀ (w1 : va_W) (H1 : Heap) (locs1 : List Loc), Pw w1 → va_P D cl (X ++ w1) H1 → va_D A (X ++ w1) → va_S A H0 H1 locs1 → W p l e R s m args below meth c H1 locs1 (cells + mc) (slots + ms) Q (F0 m (pc + 3) ls rest)) :
    W p l e R s m args below meth c H locs cells slots Q (F0 m pc ls st0) := by
  refine ct_I S hF hy hC m1 m2 hR hrc hrs hcs hK hN hP hD hS hA [X.length] (List.range X.length) (by simp) (by simp) (by rw [range_one]; exact range_some) rfl (nd_of _ List.nodup_range) (fun i hi h => ?_) hn hsize hst hW hdg (fun w1 H1 locs1 h1 h2 h3 h4 => ?_)
  · have := List.mem_range.mp hi
    have := List.mem_singleton.mp h
    omega
  · rw [range_one] at h2 h3
    exact kk w1 H1 locs1 h1 h2 h3 h4
end CIF
theorem lw_flat (a1 a2 a3 a4 a5 a6 a7 a8 a9 a10 a11 a12 a13 a14 : va_W) : (([] ++ (a1 ++ (a2 ++ (a3 ++ (a4 ++ (a5 ++ (a6 ++ (a7 ++ (a8 ++ (a9 ++ (a10 ++ (a11 ++ a12)))))))))))) ++ a13) ++ a14 = List.flatten [a1, a2, a3, a4, a5, a6, a7, a8, a9, a10, a11, a12, a13, a14] := by
  simp only [List.flatten_cons, List.flatten_nil, List.append_nil, List.nil_append, List.append_assoc]
