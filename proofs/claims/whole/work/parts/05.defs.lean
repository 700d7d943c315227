/-! each method as a function on memories, printed by program out of its decode rows -/
def nb_F : Nat := 1000
def nb_dp : Nat := 64
def f_X6_within (p0 : Int32) (p1 : Int32) : Int32 :=
  if p0 < 0 then (
    (0 : Int32)
  ) else (
    if p1 < p0 then (
      (0 : Int32)
    ) else (
      (1 : Int32)
    )
  )
theorem z_X6_within (p0 : Int32) (p1 : Int32) : f_X6_within p0 p1 = 0 ∨ f_X6_within p0 p1 = 1 := by
  unfold f_X6_within
  repeat (first | (left; rfl) | (right; rfl) | split)
def f_X6_fail (M : nb_M) (p0 : Int32) : Option (Int32 × nb_M) :=
  if p0 < 0 ∨ 7 ≤ p0.toNatClampNeg then none else
  nb_n (nb_i M 51 p0.toNatClampNeg ((M.1 51 p0.toNatClampNeg) + (1 : Int32))) fun M_2 =>
  some ((-1000000000 : Int32) - p0, M_2)
def f_X0_addPerson (M : nb_M) (p0 : Int32) (p1 : Int32) : Option (Int32 × nb_M) :=
  if M.1 1 2 < 0 ∨ 5 ≤ (M.1 1 2).toNatClampNeg then none else
  nb_n (nb_i M 2 (M.1 1 2).toNatClampNeg p0) fun M_2 =>
  nb_n (nb_i M_2 3 (M.1 1 2).toNatClampNeg p1) fun M_3 =>
  nb_n (nb_i M_3 4 (M.1 1 2).toNatClampNeg (0 : Int32)) fun M_4 =>
  nb_n (nb_i M_4 1 2 ((M_4.1 1 2) + (1 : Int32))) fun M_5 =>
  some (M.1 1 2, M_5)
def f_X6_person (M : nb_M) (p0 : Int32) (p1 : Int32) : Option (Int32 × nb_M) :=
  if (f_X6_within p0 (9 : Int32)) = 0 then (
    nb_p (f_X6_fail M (1 : Int32)) fun r_3 M_3 =>
    some (r_3, M_3)
  ) else (
    if (f_X6_within p1 (9 : Int32)) = 0 then (
      nb_p (f_X6_fail M (1 : Int32)) fun r_9 M_9 =>
      some (r_9, M_9)
    ) else (
      if (M.1 1 2) < (5 : Int32) then (
        nb_p (f_X0_addPerson M p0 p1) fun r_7 M_7 =>
        some (r_7, M_7)
      ) else (
        nb_p (f_X6_fail M (4 : Int32)) fun r_8 M_8 =>
        some (r_8, M_8)
      )
    )
  )
def f_X0_isPerson (M : nb_M) (p0 : Int32) : Int32 :=
  if p0 < 0 then (
    (0 : Int32)
  ) else (
    if (M.1 1 2) ≤ p0 then (
      (0 : Int32)
    ) else (
      (1 : Int32)
    )
  )
theorem z_X0_isPerson (M : nb_M) (p0 : Int32) : f_X0_isPerson M p0 = 0 ∨ f_X0_isPerson M p0 = 1 := by
  unfold f_X0_isPerson
  repeat (first | (left; rfl) | (right; rfl) | split)
def f_X0_isThrough (M : nb_M) (p0 : Int32) : Option Int32 :=
  if p0 < 0 ∨ 5 ≤ p0.toNatClampNeg then none else
  if (M.1 4 p0.toNatClampNeg) < (M.1 3 p0.toNatClampNeg) then (
    some (0 : Int32)
  ) else (
    some (1 : Int32)
  )
def f_X6_bit (p0 : Int32) : Int32 :=
  if p0 = 0 then (
    (0 : Int32)
  ) else (
    (1 : Int32)
  )
def f_X0_toComeOf (M : nb_M) (p0 : Int32) : Option Int32 :=
  if p0 < 0 ∨ 5 ≤ p0.toNatClampNeg then none else
  some (if (0 : Int32) < ((M.1 3 p0.toNatClampNeg) - (M.1 4 p0.toNatClampNeg)) then (M.1 3 p0.toNatClampNeg) - (M.1 4 p0.toNatClampNeg) else (0 : Int32))
def f_X0_shards_4 : Nat → nb_M → Int32 → Int32 → Option Int32
  | 0, _, _, _ => none
  | n + 1, M, x1, x2 =>
    if (M.1 1 6) ≤ x2 then (
      some x1
    ) else (
      if x2 < 0 ∨ 9 ≤ x2.toNatClampNeg then none else
      if (M.1 8 x2.toNatClampNeg) = (1 : Int32) then (
        nb_n (x1 + (f_X6_bit (1 : Int32))) fun v_7 =>
        f_X0_shards_4 n M v_7 (x2 + 1)
      ) else (
        nb_n (x1 + (f_X6_bit (0 : Int32))) fun v_5 =>
        f_X0_shards_4 n M v_5 (x2 + 1)
      )
    )
def f_X0_shards (M : nb_M) : Option Int32 :=
  f_X0_shards_4 nb_F M (0 : Int32) (0 : Int32)
def f_X3_isThere_12 (M : nb_M) : Int32 :=
  if (M.1 12 1) ≤ 0 then (
    (0 : Int32)
  ) else (
    (1 : Int32)
  )
theorem z_X3_isThere_12 (M : nb_M) : f_X3_isThere_12 M = 0 ∨ f_X3_isThere_12 M = 1 := by
  unfold f_X3_isThere_12
  repeat (first | (left; rfl) | (right; rfl) | split)
def f_X6_held (p0 : Int32) (p1 : Int32) : Int32 :=
  if (0 : Int32) < (if p0 < p1 then p0 else p1) then if p0 < p1 then p0 else p1 else (0 : Int32)
def f_X3_joined (p0 : Int32) (p1 : Int32) (p2 : Int32) : Option Int32 :=
  if p0 = 37 then (
    if p2 = 0 then (
      some (0 : Int32)
    ) else (
      if p2 = 0 then none else
      some (p1 - p1 / p2 * p2)
    )
  ) else (
    if p0 = 38 then (
      if p1 = 0 then (
        some (0 : Int32)
      ) else (
        if p2 = 0 then (
          some (0 : Int32)
        ) else (
          some (1 : Int32)
        )
      )
    ) else (
      if p0 = 42 then (
        some (p1 * p2)
      ) else (
        if p0 = 43 then (
          some (p1 + p2)
        ) else (
          if p0 = 45 then (
            some (p1 - p2)
          ) else (
            if p0 = 47 then (
              if p2 = 0 then (
                some (0 : Int32)
              ) else (
                if p2 = 0 then none else
                some (p1 / p2)
              )
            ) else (
              if p0 = 60 then (
                if p2 ≤ p1 then (
                  some (0 : Int32)
                ) else (
                  some (1 : Int32)
                )
              ) else (
                if p0 = 61 then (
                  if p1 = p2 then (
                    some (1 : Int32)
                  ) else (
                    some (0 : Int32)
                  )
                ) else (
                  if p0 = 62 then (
                    if p1 ≤ p2 then (
                      some (0 : Int32)
                    ) else (
                      some (1 : Int32)
                    )
                  ) else (
                    if p1 = 0 then (
                      if p2 = 0 then (
                        some (0 : Int32)
                      ) else (
                        some (1 : Int32)
                      )
                    ) else (
                      some (1 : Int32)
                    )
                  )
                )
              )
            )
          )
        )
      )
    )
  )
def f_X3_named (p0 : Int32) (p1 : Int32) (p2 : Int32) (p3 : Int32) : Int32 :=
  if p0 = 0 then (
    p1
  ) else (
    if p0 = (1 : Int32) then (
      p2
    ) else (
      p3
    )
  )
def f_X3_workOut_12_6 : Nat → nb_M → Int32 → Int32 → Int32 → Int32 → Int32 → Option (Int32 × nb_M)
  | 0, _, _, _, _, _, _ => none
  | n + 1, M, x1, x2, x3, x4, x5 =>
    if (M.1 12 1) ≤ x5 then (
      some (M.1 14 (0 : Int32).toNatClampNeg, M)
    ) else (
      if x5 < 0 ∨ 60 ≤ x5.toNatClampNeg then none else
      nb_n (M.1 13 x5.toNatClampNeg) fun v_3 =>
      if (20000 : Int32) ≤ v_3 then (
        if v_3 = (20033 : Int32) then (
          if x4 < (1 : Int32) then (
            if x4 < (2 : Int32) then (
              f_X3_workOut_12_6 n M x1 x2 x3 x4 (x5 + 1)
            ) else (
              if (x4 + (-1)) - (1 : Int32) < 0 ∨ 60 ≤ ((x4 + (-1)) - (1 : Int32)).toNatClampNeg then none else
              if x4 + (-1) < 0 ∨ 60 ≤ (x4 + (-1)).toNatClampNeg then none else
              nb_o (f_X3_joined (v_3 - (20000 : Int32)) (M.1 14 ((x4 + (-1)) - (1 : Int32)).toNatClampNeg) (M.1 14 (x4 + (-1)).toNatClampNeg)) fun r_15 =>
              nb_n (nb_i M 14 ((x4 + (-1)) - (1 : Int32)).toNatClampNeg r_15) fun M_16 =>
              f_X3_workOut_12_6 n M_16 x1 x2 x3 (x4 + (-1)) (x5 + 1)
            )
          ) else (
            if x4 - (1 : Int32) < 0 ∨ 60 ≤ (x4 - (1 : Int32)).toNatClampNeg then none else
            if (M.1 14 (x4 - (1 : Int32)).toNatClampNeg) = 0 then (
              nb_n (nb_i M 14 (x4 - (1 : Int32)).toNatClampNeg (1 : Int32)) fun M_20 =>
              f_X3_workOut_12_6 n M_20 x1 x2 x3 x4 (x5 + 1)
            ) else (
              nb_n (nb_i M 14 (x4 - (1 : Int32)).toNatClampNeg (0 : Int32)) fun M_19 =>
              f_X3_workOut_12_6 n M_19 x1 x2 x3 x4 (x5 + 1)
            )
          )
        ) else (
          if x4 < (2 : Int32) then (
            f_X3_workOut_12_6 n M x1 x2 x3 x4 (x5 + 1)
          ) else (
            if (x4 + (-1)) - (1 : Int32) < 0 ∨ 60 ≤ ((x4 + (-1)) - (1 : Int32)).toNatClampNeg then none else
            if x4 + (-1) < 0 ∨ 60 ≤ (x4 + (-1)).toNatClampNeg then none else
            nb_o (f_X3_joined (v_3 - (20000 : Int32)) (M.1 14 ((x4 + (-1)) - (1 : Int32)).toNatClampNeg) (M.1 14 (x4 + (-1)).toNatClampNeg)) fun r_9 =>
            nb_n (nb_i M 14 ((x4 + (-1)) - (1 : Int32)).toNatClampNeg r_9) fun M_10 =>
            f_X3_workOut_12_6 n M_10 x1 x2 x3 (x4 + (-1)) (x5 + 1)
          )
        )
      ) else (
        if (60 : Int32) ≤ x4 then (
          if v_3 = (20033 : Int32) then (
            if x4 < (1 : Int32) then (
              if x4 < (2 : Int32) then (
                f_X3_workOut_12_6 n M x1 x2 x3 x4 (x5 + 1)
              ) else (
                if (x4 + (-1)) - (1 : Int32) < 0 ∨ 60 ≤ ((x4 + (-1)) - (1 : Int32)).toNatClampNeg then none else
                if x4 + (-1) < 0 ∨ 60 ≤ (x4 + (-1)).toNatClampNeg then none else
                nb_o (f_X3_joined (v_3 - (20000 : Int32)) (M.1 14 ((x4 + (-1)) - (1 : Int32)).toNatClampNeg) (M.1 14 (x4 + (-1)).toNatClampNeg)) fun r_32 =>
                nb_n (nb_i M 14 ((x4 + (-1)) - (1 : Int32)).toNatClampNeg r_32) fun M_33 =>
                f_X3_workOut_12_6 n M_33 x1 x2 x3 (x4 + (-1)) (x5 + 1)
              )
            ) else (
              if x4 - (1 : Int32) < 0 ∨ 60 ≤ (x4 - (1 : Int32)).toNatClampNeg then none else
              if (M.1 14 (x4 - (1 : Int32)).toNatClampNeg) = 0 then (
                nb_n (nb_i M 14 (x4 - (1 : Int32)).toNatClampNeg (1 : Int32)) fun M_37 =>
                f_X3_workOut_12_6 n M_37 x1 x2 x3 x4 (x5 + 1)
              ) else (
                nb_n (nb_i M 14 (x4 - (1 : Int32)).toNatClampNeg (0 : Int32)) fun M_36 =>
                f_X3_workOut_12_6 n M_36 x1 x2 x3 x4 (x5 + 1)
              )
            )
          ) else (
            if x4 < (2 : Int32) then (
              f_X3_workOut_12_6 n M x1 x2 x3 x4 (x5 + 1)
            ) else (
              if (x4 + (-1)) - (1 : Int32) < 0 ∨ 60 ≤ ((x4 + (-1)) - (1 : Int32)).toNatClampNeg then none else
              if x4 + (-1) < 0 ∨ 60 ≤ (x4 + (-1)).toNatClampNeg then none else
              nb_o (f_X3_joined (v_3 - (20000 : Int32)) (M.1 14 ((x4 + (-1)) - (1 : Int32)).toNatClampNeg) (M.1 14 (x4 + (-1)).toNatClampNeg)) fun r_26 =>
              nb_n (nb_i M 14 ((x4 + (-1)) - (1 : Int32)).toNatClampNeg r_26) fun M_27 =>
              f_X3_workOut_12_6 n M_27 x1 x2 x3 (x4 + (-1)) (x5 + 1)
            )
          )
        ) else (
          if (10000 : Int32) ≤ v_3 then (
            if x4 < 0 ∨ 60 ≤ x4.toNatClampNeg then none else
            nb_n (nb_i M 14 x4.toNatClampNeg (f_X3_named (v_3 - (10000 : Int32)) x1 x2 x3)) fun M_41 =>
            f_X3_workOut_12_6 n M_41 x1 x2 x3 (x4 + 1) (x5 + 1)
          ) else (
            if x4 < 0 ∨ 60 ≤ x4.toNatClampNeg then none else
            nb_n (nb_i M 14 x4.toNatClampNeg v_3) fun M_43 =>
            f_X3_workOut_12_6 n M_43 x1 x2 x3 (x4 + 1) (x5 + 1)
          )
        )
      )
    )
def f_X3_workOut_12 (M : nb_M) (p0 : Int32) (p1 : Int32) (p2 : Int32) : Option (Int32 × nb_M) :=
  f_X3_workOut_12_6 nb_F M p0 p1 p2 (0 : Int32) (0 : Int32)
def f_X3_isThere_15 (M : nb_M) : Int32 :=
  if (M.1 15 1) ≤ 0 then (
    (0 : Int32)
  ) else (
    (1 : Int32)
  )
theorem z_X3_isThere_15 (M : nb_M) : f_X3_isThere_15 M = 0 ∨ f_X3_isThere_15 M = 1 := by
  unfold f_X3_isThere_15
  repeat (first | (left; rfl) | (right; rfl) | split)
def f_X3_workOut_15_6 : Nat → nb_M → Int32 → Int32 → Int32 → Int32 → Int32 → Option (Int32 × nb_M)
  | 0, _, _, _, _, _, _ => none
  | n + 1, M, x1, x2, x3, x4, x5 =>
    if (M.1 15 1) ≤ x5 then (
      some (M.1 17 (0 : Int32).toNatClampNeg, M)
    ) else (
      if x5 < 0 ∨ 60 ≤ x5.toNatClampNeg then none else
      nb_n (M.1 16 x5.toNatClampNeg) fun v_3 =>
      if (20000 : Int32) ≤ v_3 then (
        if v_3 = (20033 : Int32) then (
          if x4 < (1 : Int32) then (
            if x4 < (2 : Int32) then (
              f_X3_workOut_15_6 n M x1 x2 x3 x4 (x5 + 1)
            ) else (
              if (x4 + (-1)) - (1 : Int32) < 0 ∨ 60 ≤ ((x4 + (-1)) - (1 : Int32)).toNatClampNeg then none else
              if x4 + (-1) < 0 ∨ 60 ≤ (x4 + (-1)).toNatClampNeg then none else
              nb_o (f_X3_joined (v_3 - (20000 : Int32)) (M.1 17 ((x4 + (-1)) - (1 : Int32)).toNatClampNeg) (M.1 17 (x4 + (-1)).toNatClampNeg)) fun r_15 =>
              nb_n (nb_i M 17 ((x4 + (-1)) - (1 : Int32)).toNatClampNeg r_15) fun M_16 =>
              f_X3_workOut_15_6 n M_16 x1 x2 x3 (x4 + (-1)) (x5 + 1)
            )
          ) else (
            if x4 - (1 : Int32) < 0 ∨ 60 ≤ (x4 - (1 : Int32)).toNatClampNeg then none else
            if (M.1 17 (x4 - (1 : Int32)).toNatClampNeg) = 0 then (
              nb_n (nb_i M 17 (x4 - (1 : Int32)).toNatClampNeg (1 : Int32)) fun M_20 =>
              f_X3_workOut_15_6 n M_20 x1 x2 x3 x4 (x5 + 1)
            ) else (
              nb_n (nb_i M 17 (x4 - (1 : Int32)).toNatClampNeg (0 : Int32)) fun M_19 =>
              f_X3_workOut_15_6 n M_19 x1 x2 x3 x4 (x5 + 1)
            )
          )
        ) else (
          if x4 < (2 : Int32) then (
            f_X3_workOut_15_6 n M x1 x2 x3 x4 (x5 + 1)
          ) else (
            if (x4 + (-1)) - (1 : Int32) < 0 ∨ 60 ≤ ((x4 + (-1)) - (1 : Int32)).toNatClampNeg then none else
            if x4 + (-1) < 0 ∨ 60 ≤ (x4 + (-1)).toNatClampNeg then none else
            nb_o (f_X3_joined (v_3 - (20000 : Int32)) (M.1 17 ((x4 + (-1)) - (1 : Int32)).toNatClampNeg) (M.1 17 (x4 + (-1)).toNatClampNeg)) fun r_9 =>
            nb_n (nb_i M 17 ((x4 + (-1)) - (1 : Int32)).toNatClampNeg r_9) fun M_10 =>
            f_X3_workOut_15_6 n M_10 x1 x2 x3 (x4 + (-1)) (x5 + 1)
          )
        )
      ) else (
        if (60 : Int32) ≤ x4 then (
          if v_3 = (20033 : Int32) then (
            if x4 < (1 : Int32) then (
              if x4 < (2 : Int32) then (
                f_X3_workOut_15_6 n M x1 x2 x3 x4 (x5 + 1)
              ) else (
                if (x4 + (-1)) - (1 : Int32) < 0 ∨ 60 ≤ ((x4 + (-1)) - (1 : Int32)).toNatClampNeg then none else
                if x4 + (-1) < 0 ∨ 60 ≤ (x4 + (-1)).toNatClampNeg then none else
                nb_o (f_X3_joined (v_3 - (20000 : Int32)) (M.1 17 ((x4 + (-1)) - (1 : Int32)).toNatClampNeg) (M.1 17 (x4 + (-1)).toNatClampNeg)) fun r_32 =>
                nb_n (nb_i M 17 ((x4 + (-1)) - (1 : Int32)).toNatClampNeg r_32) fun M_33 =>
                f_X3_workOut_15_6 n M_33 x1 x2 x3 (x4 + (-1)) (x5 + 1)
              )
            ) else (
              if x4 - (1 : Int32) < 0 ∨ 60 ≤ (x4 - (1 : Int32)).toNatClampNeg then none else
              if (M.1 17 (x4 - (1 : Int32)).toNatClampNeg) = 0 then (
                nb_n (nb_i M 17 (x4 - (1 : Int32)).toNatClampNeg (1 : Int32)) fun M_37 =>
                f_X3_workOut_15_6 n M_37 x1 x2 x3 x4 (x5 + 1)
              ) else (
                nb_n (nb_i M 17 (x4 - (1 : Int32)).toNatClampNeg (0 : Int32)) fun M_36 =>
                f_X3_workOut_15_6 n M_36 x1 x2 x3 x4 (x5 + 1)
              )
            )
          ) else (
            if x4 < (2 : Int32) then (
              f_X3_workOut_15_6 n M x1 x2 x3 x4 (x5 + 1)
            ) else (
              if (x4 + (-1)) - (1 : Int32) < 0 ∨ 60 ≤ ((x4 + (-1)) - (1 : Int32)).toNatClampNeg then none else
              if x4 + (-1) < 0 ∨ 60 ≤ (x4 + (-1)).toNatClampNeg then none else
              nb_o (f_X3_joined (v_3 - (20000 : Int32)) (M.1 17 ((x4 + (-1)) - (1 : Int32)).toNatClampNeg) (M.1 17 (x4 + (-1)).toNatClampNeg)) fun r_26 =>
              nb_n (nb_i M 17 ((x4 + (-1)) - (1 : Int32)).toNatClampNeg r_26) fun M_27 =>
              f_X3_workOut_15_6 n M_27 x1 x2 x3 (x4 + (-1)) (x5 + 1)
            )
          )
        ) else (
          if (10000 : Int32) ≤ v_3 then (
            if x4 < 0 ∨ 60 ≤ x4.toNatClampNeg then none else
            nb_n (nb_i M 17 x4.toNatClampNeg (f_X3_named (v_3 - (10000 : Int32)) x1 x2 x3)) fun M_41 =>
            f_X3_workOut_15_6 n M_41 x1 x2 x3 (x4 + 1) (x5 + 1)
          ) else (
            if x4 < 0 ∨ 60 ≤ x4.toNatClampNeg then none else
            nb_n (nb_i M 17 x4.toNatClampNeg v_3) fun M_43 =>
            f_X3_workOut_15_6 n M_43 x1 x2 x3 (x4 + 1) (x5 + 1)
          )
        )
      )
    )
def f_X3_workOut_15 (M : nb_M) (p0 : Int32) (p1 : Int32) (p2 : Int32) : Option (Int32 × nb_M) :=
  f_X3_workOut_15_6 nb_F M p0 p1 p2 (0 : Int32) (0 : Int32)
def f_X0_gives (M : nb_M) (p0 : Int32) (p1 : Int32) (p2 : Int32) (p3 : Int32) : Option (Int32 × nb_M) :=
  if p0 = 0 then (
    if (f_X3_isThere_12 M) = 0 then (
      some (f_X6_held p1 (16 : Int32), M)
    ) else (
      nb_p (f_X3_workOut_12 M p1 p2 p3) fun r_6 M_6 =>
      some (f_X6_held r_6 (16 : Int32), M_6)
    )
  ) else (
    if p0 = 1 then (
      if (f_X3_isThere_15 M) = 0 then (
        some (f_X6_held ((10 : Int32) * p1) (199 : Int32), M)
      ) else (
        nb_p (f_X3_workOut_15 M p1 p2 p3) fun r_13 M_13 =>
        some (f_X6_held r_13 (199 : Int32), M_13)
      )
    ) else (
      none
    )
  )
def f_X0_yearsOf (M : nb_M) (p0 : Int32) : Option (Int32 × nb_M) :=
  nb_o (f_X0_toComeOf M p0) fun r_1 =>
  nb_o (f_X0_shards M) fun r_2 =>
  nb_p (f_X0_gives M (1 : Int32) r_1 r_2 p0) fun r_3 M_3 =>
  some (r_3, M_3)
def f_X6_personIs (M : nb_M) (p0 : Int32) (p1 : Int32) : Option (Int32 × nb_M) :=
  if (f_X0_isPerson M p0) = 0 then (
    nb_p (f_X6_fail M (1 : Int32)) fun r_15 M_15 =>
    some (r_15, M_15)
  ) else (
    if p1 = 0 then (
      if p0 < 0 ∨ 5 ≤ p0.toNatClampNeg then none else
      some (M.1 2 p0.toNatClampNeg, M)
    ) else (
      if p1 = 1 then (
        if p0 < 0 ∨ 5 ≤ p0.toNatClampNeg then none else
        some (M.1 3 p0.toNatClampNeg, M)
      ) else (
        if p1 = 2 then (
          if p0 < 0 ∨ 5 ≤ p0.toNatClampNeg then none else
          some (M.1 4 p0.toNatClampNeg, M)
        ) else (
          if p1 = 3 then (
            nb_o (f_X0_isThrough M p0) fun r_10 =>
            some (f_X6_bit r_10, M)
          ) else (
            if p1 = 4 then (
              nb_p (f_X0_yearsOf M p0) fun r_13 M_13 =>
              some (r_13, M_13)
            ) else (
              nb_p (f_X6_fail M (1 : Int32)) fun r_14 M_14 =>
              some (r_14, M_14)
            )
          )
        )
      )
    )
  )
def f_X0_shape (M : nb_M) (p0 : Int32) (p1 : Int32) : Option nb_M :=
  if p0 < 0 ∨ 9 ≤ p0.toNatClampNeg then none else
  nb_n (nb_i M 5 p0.toNatClampNeg (p1 / (10 : Int32))) fun M_2 =>
  nb_n (nb_i M_2 6 p0.toNatClampNeg (p1 - p1 / (10 : Int32) * (10 : Int32))) fun M_3 =>
  some M_3
def f_X0_addPiece (M : nb_M) (p0 : Int32) (p1 : Int32) : Option (Int32 × nb_M) :=
  nb_o (f_X0_shape M (M.1 1 6) p0) fun M_1 =>
  if M.1 1 6 < 0 ∨ 9 ≤ (M.1 1 6).toNatClampNeg then none else
  nb_n (nb_i M_1 7 (M.1 1 6).toNatClampNeg p1) fun M_3 =>
  nb_n (nb_i M_3 8 (M.1 1 6).toNatClampNeg (0 : Int32)) fun M_4 =>
  nb_n (nb_i M_4 1 6 ((M_4.1 1 6) + (1 : Int32))) fun M_5 =>
  some (M.1 1 6, M_5)
def f_X6_piece (M : nb_M) (p0 : Int32) (p1 : Int32) : Option (Int32 × nb_M) :=
  if (f_X6_within p0 (69 : Int32)) = 0 then (
    nb_p (f_X6_fail M (1 : Int32)) fun r_3 M_3 =>
    some (r_3, M_3)
  ) else (
    if (f_X0_isPerson M p1) = 0 then (
      nb_p (f_X6_fail M (1 : Int32)) fun r_9 M_9 =>
      some (r_9, M_9)
    ) else (
      if (M.1 1 6) < (9 : Int32) then (
        nb_p (f_X0_addPiece M p0 p1) fun r_7 M_7 =>
        some (r_7, M_7)
      ) else (
        nb_p (f_X6_fail M (4 : Int32)) fun r_8 M_8 =>
        some (r_8, M_8)
      )
    )
  )
def f_X0_isPiece (M : nb_M) (p0 : Int32) : Int32 :=
  if p0 < 0 then (
    (0 : Int32)
  ) else (
    if (M.1 1 6) ≤ p0 then (
      (0 : Int32)
    ) else (
      (1 : Int32)
    )
  )
theorem z_X0_isPiece (M : nb_M) (p0 : Int32) : f_X0_isPiece M p0 = 0 ∨ f_X0_isPiece M p0 = 1 := by
  unfold f_X0_isPiece
  repeat (first | (left; rfl) | (right; rfl) | split)
def f_X0_countsOn_16 (M : nb_M) (x1 : Int32) (x2 : Int32) : Option Int32 :=
  if x1 < 0 ∨ 9 ≤ x1.toNatClampNeg then none else
  if M.1 5 x1.toNatClampNeg = 2 then (
    some (1 : Int32)
  ) else (
    if M.1 5 x1.toNatClampNeg = 3 then (
      if (8 : Int32) ≤ (M.1 6 x1.toNatClampNeg) then (
        some (0 : Int32)
      ) else (
        some (1 : Int32)
      )
    ) else (
      if M.1 5 x1.toNatClampNeg = 4 then (
        nb_o (f_X0_shards M) fun r_7 =>
        if r_7 ≤ 0 then (
          some (0 : Int32)
        ) else (
          some (1 : Int32)
        )
      ) else (
        if M.1 5 x1.toNatClampNeg = 5 then (
          some (1 : Int32)
        ) else (
          if M.1 5 x1.toNatClampNeg = 6 then (
            some (0 : Int32)
          ) else (
            some (1 : Int32)
          )
        )
      )
    )
  )
def f_X0_countsOn (M : nb_M) (p0 : Int32) (p1 : Int32) : Option Int32 :=
  if (p1 - p1 / (2 : Int32) * (2 : Int32)) = 0 then (
    f_X0_countsOn_16 M p0 p1
  ) else (
    if p0 < 0 ∨ 9 ≤ p0.toNatClampNeg then none else
    if (M.1 6 p0.toNatClampNeg) ≤ (4 : Int32) then (
      if M.1 5 p0.toNatClampNeg = 2 then (
        some (0 : Int32)
      ) else (
        if M.1 5 p0.toNatClampNeg = 3 then (
          if (8 : Int32) ≤ (M.1 6 p0.toNatClampNeg) then (
            some (0 : Int32)
          ) else (
            some (1 : Int32)
          )
        ) else (
          if M.1 5 p0.toNatClampNeg = 4 then (
            nb_o (f_X0_shards M) fun r_18 =>
            if r_18 ≤ 0 then (
              some (0 : Int32)
            ) else (
              some (1 : Int32)
            )
          ) else (
            if M.1 5 p0.toNatClampNeg = 5 then (
              if p1 ≤ (100 : Int32) then (
                some (0 : Int32)
              ) else (
                some (1 : Int32)
              )
            ) else (
              if M.1 5 p0.toNatClampNeg = 6 then (
                some (0 : Int32)
              ) else (
                some (1 : Int32)
              )
            )
          )
        )
      )
    ) else (
      f_X0_countsOn_16 M p0 p1
    )
  )
def f_X0_slipsBy (M : nb_M) (p0 : Int32) (p1 : Int32) : Option Int32 :=
  if p0 < 0 ∨ 9 ≤ p0.toNatClampNeg then none else
  nb_n (((10 : Int32) - p1) + (M.1 6 p0.toNatClampNeg)) fun v_2 =>
  if M.1 5 p0.toNatClampNeg = 1 then (
    some (v_2 + (3 : Int32))
  ) else (
    if M.1 5 p0.toNatClampNeg = 2 then (
      some (v_2 / (2 : Int32))
    ) else (
      if M.1 5 p0.toNatClampNeg = 3 then (
        some (v_2 - (M.1 6 p0.toNatClampNeg))
      ) else (
        if M.1 5 p0.toNatClampNeg = 4 then (
          some ((v_2 + (3 : Int32)) + ((M.1 1 0) - (M.1 1 0) / (3 : Int32) * (3 : Int32)))
        ) else (
          if M.1 5 p0.toNatClampNeg = 5 then (
            nb_o (f_X0_shards M) fun r_8 =>
            some ((v_2 / (2 : Int32)) + r_8)
          ) else (
            if M.1 5 p0.toNatClampNeg = 6 then (
              if p1 ≤ (6 : Int32) then (
                some v_2
              ) else (
                some (0 : Int32)
              )
            ) else (
              some v_2
            )
          )
        )
      )
    )
  )
def f_X0_riskBy (M : nb_M) (p0 : Int32) (p1 : Int32) : Option (Int32 × nb_M) :=
  nb_o (f_X0_slipsBy M p0 p1) fun r_1 =>
  nb_p (f_X0_gives M (0 : Int32) r_1 p1 ((M.1 1 0) - (M.1 1 0) / (7 : Int32) * (7 : Int32))) fun r_2 M_2 =>
  some (r_2, M_2)
def f_X0_riskIn (M : nb_M) (p0 : Int32) (p1 : Int32) : Option (Int32 × nb_M) :=
  if p1 < 0 ∨ 5 ≤ p1.toNatClampNeg then none else
  nb_p (f_X0_riskBy M p0 (M.1 2 p1.toNatClampNeg)) fun r_2 M_2 =>
  some (r_2, M_2)
def f_X6_pieceIs (M : nb_M) (p0 : Int32) (p1 : Int32) : Option (Int32 × nb_M) :=
  if (f_X0_isPiece M p0) = 0 then (
    nb_p (f_X6_fail M (1 : Int32)) fun r_18 M_18 =>
    some (r_18, M_18)
  ) else (
    if p1 = 0 then (
      if p0 < 0 ∨ 9 ≤ p0.toNatClampNeg then none else
      some (M.1 5 p0.toNatClampNeg, M)
    ) else (
      if p1 = 1 then (
        if p0 < 0 ∨ 9 ≤ p0.toNatClampNeg then none else
        some (M.1 6 p0.toNatClampNeg, M)
      ) else (
        if p1 = 2 then (
          if p0 < 0 ∨ 9 ≤ p0.toNatClampNeg then none else
          some (M.1 7 p0.toNatClampNeg, M)
        ) else (
          if p1 = 3 then (
            if p0 < 0 ∨ 9 ≤ p0.toNatClampNeg then none else
            some (M.1 8 p0.toNatClampNeg, M)
          ) else (
            if p1 = 4 then (
              nb_o (f_X0_countsOn M p0 (M.1 1 0)) fun r_12 =>
              some (f_X6_bit r_12, M)
            ) else (
              if p1 = 5 then (
                if p0 < 0 ∨ 9 ≤ p0.toNatClampNeg then none else
                nb_p (f_X0_riskIn M p0 (M.1 7 p0.toNatClampNeg)) fun r_16 M_16 =>
                some (r_16, M_16)
              ) else (
                nb_p (f_X6_fail M (1 : Int32)) fun r_17 M_17 =>
                some (r_17, M_17)
              )
            )
          )
        )
      )
    )
  )
def f_X6_become (M : nb_M) (p0 : Int32) (p1 : Int32) : Option (Int32 × nb_M) :=
  if (f_X0_isPiece M p0) = 0 then (
    nb_p (f_X6_fail M (1 : Int32)) fun r_3 M_3 =>
    some (r_3, M_3)
  ) else (
    if (f_X6_within p1 (69 : Int32)) = 0 then (
      nb_p (f_X6_fail M (1 : Int32)) fun r_9 M_9 =>
      some (r_9, M_9)
    ) else (
      if p0 < 0 ∨ 9 ≤ p0.toNatClampNeg then none else
      nb_n (M.1 5 p0.toNatClampNeg) fun v_7 =>
      nb_o (f_X0_shape M p0 p1) fun M_8 =>
      some (v_7, M_8)
    )
  )
def f_X6_isUnder_4 : Nat → Int32 → Int32 → Int32 → Option Int32
  | 0, _, _, _ => none
  | n + 1, x1, x2, x3 =>
    if (6 : Int32) < x3 then (
      some (0 : Int32)
    ) else (
      if x2 < 0 then (
        some (0 : Int32)
      ) else (
        if (6 : Int32) < x2 then (
          some (0 : Int32)
        ) else (
          if x2 = x1 then (
            some (1 : Int32)
          ) else (
            if x2 < 0 ∨ 7 ≤ x2.toNatClampNeg then none else
            nb_n (nb_above x2.toNatClampNeg) fun v_6 =>
            f_X6_isUnder_4 n x1 v_6 (x3 + 1)
          )
        )
      )
    )
def f_X6_isUnder (p0 : Int32) (p1 : Int32) : Option Int32 :=
  f_X6_isUnder_4 nb_F p1 p0 (0 : Int32)
def f_X6_as (M : nb_M) (p0 : Int32) (p1 : Int32) : Option (Int32 × nb_M) :=
  if (f_X0_isPiece M p0) = 0 then (
    nb_p (f_X6_fail M (1 : Int32)) fun r_3 M_3 =>
    some (r_3, M_3)
  ) else (
    if (f_X6_within p1 (6 : Int32)) = 0 then (
      nb_p (f_X6_fail M (1 : Int32)) fun r_10 M_10 =>
      some (r_10, M_10)
    ) else (
      if p0 < 0 ∨ 9 ≤ p0.toNatClampNeg then none else
      nb_o (f_X6_isUnder (M.1 5 p0.toNatClampNeg) p1) fun r_7 =>
      if r_7 = 0 then (
        nb_p (f_X6_fail M (5 : Int32)) fun r_9 M_9 =>
        some (r_9, M_9)
      ) else (
        some (M.1 6 p0.toNatClampNeg, M)
      )
    )
  )
def f_X6_minds (M : nb_M) (p0 : Int32) (p1 : Int32) : Option (Int32 × nb_M) :=
  if (f_X0_isPerson M p0) = 0 then (
    nb_p (f_X6_fail M (1 : Int32)) fun r_3 M_3 =>
    some (r_3, M_3)
  ) else (
    if (f_X6_within p1 (9 : Int32)) = 0 then (
      nb_p (f_X6_fail M (1 : Int32)) fun r_9 M_9 =>
      some (r_9, M_9)
    ) else (
      if p0 < 0 ∨ 5 ≤ p0.toNatClampNeg then none else
      nb_n (M.1 2 p0.toNatClampNeg) fun v_7 =>
      nb_n (nb_i M 2 p0.toNatClampNeg p1) fun M_8 =>
      some (v_7, M_8)
    )
  )
def f_X6_lend (M : nb_M) (p0 : Int32) (p1 : Int32) : Option (Int32 × nb_M) :=
  if (f_X0_isPiece M p0) = 0 then (
    nb_p (f_X6_fail M (1 : Int32)) fun r_3 M_3 =>
    some (r_3, M_3)
  ) else (
    if (f_X0_isPerson M p1) = 0 then (
      nb_p (f_X6_fail M (1 : Int32)) fun r_9 M_9 =>
      some (r_9, M_9)
    ) else (
      if p0 < 0 ∨ 9 ≤ p0.toNatClampNeg then none else
      nb_n (M.1 7 p0.toNatClampNeg) fun v_7 =>
      nb_n (nb_i M 7 p0.toNatClampNeg p1) fun M_8 =>
      some (v_7, M_8)
    )
  )
def f_X6_wall (M : nb_M) (p0 : Int32) (p1 : Int32) : Option (Int32 × nb_M) :=
  if (f_X0_isPiece M p0) = 0 then (
    nb_p (f_X6_fail M (1 : Int32)) fun r_3 M_3 =>
    some (r_3, M_3)
  ) else (
    if (f_X6_within p1 (1 : Int32)) = 0 then (
      nb_p (f_X6_fail M (1 : Int32)) fun r_19 M_19 =>
      some (r_19, M_19)
    ) else (
      if p0 < 0 ∨ 9 ≤ p0.toNatClampNeg then none else
      nb_n (M.1 8 p0.toNatClampNeg) fun v_7 =>
      if v_7 = (1 : Int32) then (
        nb_p (f_X6_fail M (3 : Int32)) fun r_18 M_18 =>
        some (r_18, M_18)
      ) else (
        if p1 = (1 : Int32) then (
          nb_n (nb_i M 8 p0.toNatClampNeg (2 : Int32)) fun M_14 =>
          if v_7 = (2 : Int32) then (
            some (f_X6_bit (1 : Int32), M_14)
          ) else (
            some (f_X6_bit (0 : Int32), M_14)
          )
        ) else (
          nb_n (nb_i M 8 p0.toNatClampNeg (0 : Int32)) fun M_10 =>
          if v_7 = (2 : Int32) then (
            some (f_X6_bit (1 : Int32), M_10)
          ) else (
            some (f_X6_bit (0 : Int32), M_10)
          )
        )
      )
    )
  )
def f_X6_risk (M : nb_M) (p0 : Int32) (p1 : Int32) : Option (Int32 × nb_M) :=
  if (f_X0_isPiece M p0) = 0 then (
    nb_p (f_X6_fail M (1 : Int32)) fun r_3 M_3 =>
    some (r_3, M_3)
  ) else (
    if (f_X0_isPerson M p1) = 0 then (
      nb_p (f_X6_fail M (1 : Int32)) fun r_7 M_7 =>
      some (r_7, M_7)
    ) else (
      nb_p (f_X0_riskIn M p0 p1) fun r_6 M_6 =>
      some (r_6, M_6)
    )
  )
def f_X0_breakPiece (M : nb_M) (p0 : Int32) : Option (Int32 × nb_M) :=
  nb_o (f_X0_countsOn M p0 (M.1 1 0)) fun r_1 =>
  if p0 < 0 ∨ 9 ≤ p0.toNatClampNeg then none else
  nb_n (M.1 7 p0.toNatClampNeg) fun v_3 =>
  if r_1 = 0 then (
    nb_n (nb_i M 8 p0.toNatClampNeg (1 : Int32)) fun M_5 =>
    if ¬ (r_1 = 0 ∨ r_1 = 1) then none else
    some (r_1, M_5)
  ) else (
    if v_3 < 0 ∨ 5 ≤ v_3.toNatClampNeg then none else
    if (9999 : Int32) ≤ (M.1 4 v_3.toNatClampNeg) then (
      nb_n (nb_i M 8 p0.toNatClampNeg (1 : Int32)) fun M_9 =>
      if ¬ (r_1 = 0 ∨ r_1 = 1) then none else
      some (r_1, M_9)
    ) else (
      nb_n (nb_i M 4 v_3.toNatClampNeg ((M.1 4 v_3.toNatClampNeg) + (1 : Int32))) fun M_11 =>
      nb_n (nb_i M_11 8 p0.toNatClampNeg (1 : Int32)) fun M_12 =>
      if ¬ (r_1 = 0 ∨ r_1 = 1) then none else
      some (r_1, M_12)
    )
  )
def f_X6_drop (M : nb_M) (p0 : Int32) : Option (Int32 × nb_M) :=
  if (f_X0_isPiece M p0) = 0 then (
    nb_p (f_X6_fail M (1 : Int32)) fun r_8 M_8 =>
    some (r_8, M_8)
  ) else (
    if p0 < 0 ∨ 9 ≤ p0.toNatClampNeg then none else
    if (M.1 8 p0.toNatClampNeg) = 0 then (
      nb_p (f_X0_breakPiece M p0) fun r_5 M_5 =>
      some (f_X6_bit r_5, M_5)
    ) else (
      nb_p (f_X6_fail M (3 : Int32)) fun r_7 M_7 =>
      some (r_7, M_7)
    )
  )
def f_X0_tapeBytes_3 : Nat → nb_M → Int64 → Int32 → Int32 → Option (Int32 × nb_M)
  | 0, _, _, _, _ => none
  | n + 1, M, x1, x3, x4 =>
    if x3 ≤ x4 then (
      some (M.1 1 13, M)
    ) else (
      if (60 : Int32) ≤ (M.1 1 13) then (
        some (M.1 1 13, M)
      ) else (
        if M.1 1 13 < 0 ∨ 60 ≤ (M.1 1 13).toNatClampNeg then none else
        nb_n (nb_i M 10 (M.1 1 13).toNatClampNeg ((((x1.toUInt64 >>> (((8 : Int32) * x4).toInt64.toUInt64 &&& Int64.toUInt64 63)).toInt64) &&& (255 : Int64)).toInt32)) fun M_4 =>
        nb_n (nb_i M_4 1 13 ((M_4.1 1 13) + (1 : Int32))) fun M_5 =>
        f_X0_tapeBytes_3 n M_5 x1 x3 (x4 + 1)
      )
    )
def f_X0_tapeBytes (M : nb_M) (p0 : Int64) (p1 : Int32) : Option (Int32 × nb_M) :=
  f_X0_tapeBytes_3 nb_F M p0 p1 (0 : Int32)
def f_X6_feed (M : nb_M) (p0 : Int64) (p1 : Int32) : Option (Int32 × nb_M) :=
  if p1 < (1 : Int32) then (
    nb_p (f_X6_fail M (1 : Int32)) fun r_2 M_2 =>
    some (r_2, M_2)
  ) else (
    if p1 ≤ (8 : Int32) then (
      if p1 ≤ ((60 : Int32) - (M.1 1 13)) then (
        nb_p (f_X0_tapeBytes M p0 p1) fun r_5 M_5 =>
        some (r_5, M_5)
      ) else (
        nb_p (f_X6_fail M (4 : Int32)) fun r_6 M_6 =>
        some (r_6, M_6)
      )
    ) else (
      nb_p (f_X6_fail M (1 : Int32)) fun r_7 M_7 =>
      some (r_7, M_7)
    )
  )
def f_X1_next (M : nb_M) : Option Int32 :=
  if (M.1 35 4) ≤ (M.1 35 2) then (
    some (-1 : Int32)
  ) else (
    if M.1 35 2 < 0 ∨ 60 ≤ (M.1 35 2).toNatClampNeg then none else
    some (M.1 37 (M.1 35 2).toNatClampNeg)
  )
def f_X1_levelOf (p0 : Int32) : Int32 :=
  if p0 = 37 then (
    (4 : Int32)
  ) else (
    if p0 = 38 then (
      (1 : Int32)
    ) else (
      if p0 = 42 then (
        (4 : Int32)
      ) else (
        if p0 = 43 then (
          (3 : Int32)
        ) else (
          if p0 = 45 then (
            (3 : Int32)
          ) else (
            if p0 = 47 then (
              (4 : Int32)
            ) else (
              if p0 = 60 then (
                (2 : Int32)
              ) else (
                if p0 = 61 then (
                  (2 : Int32)
                ) else (
                  if p0 = 62 then (
                    (2 : Int32)
                  ) else (
                    if p0 = 124 then (
                      (0 : Int32)
                    ) else (
                      (-1 : Int32)
                    )
                  )
                )
              )
            )
          )
        )
      )
    )
  )
def f_X1_step (M : nb_M) (p0 : Int32) : Option nb_M :=
  if (60 : Int32) ≤ (M.1 35 1) then (
    some M
  ) else (
    if M.1 35 1 < 0 ∨ 60 ≤ (M.1 35 1).toNatClampNeg then none else
    nb_n (nb_i M 36 (M.1 35 1).toNatClampNeg p0) fun M_3 =>
    nb_n (nb_i M_3 35 1 ((M_3.1 35 1) + (1 : Int32))) fun M_4 =>
    some M_4
  )
def f_X1_isDigit (p0 : Int32) : Int32 :=
  if p0 < (48 : Int32) then (
    (0 : Int32)
  ) else (
    if (57 : Int32) < p0 then (
      (0 : Int32)
    ) else (
      (1 : Int32)
    )
  )
theorem z_X1_isDigit (p0 : Int32) : f_X1_isDigit p0 = 0 ∨ f_X1_isDigit p0 = 1 := by
  unfold f_X1_isDigit
  repeat (first | (left; rfl) | (right; rfl) | split)
def f_X1_nameOf_2 : Nat → nb_M → Int32 → Int32 → Option Int32
  | 0, _, _, _ => none
  | n + 1, M, x1, x2 =>
    if (3 : Int32) ≤ x2 then (
      some x2
    ) else (
      if (M.1 35 5) = 0 then (
        if x2 < 0 ∨ 3 ≤ x2.toNatClampNeg then none else
        if x1 = (nb_rn x2.toNatClampNeg) then (
          some x2
        ) else (
          f_X1_nameOf_2 n M x1 (x2 + 1)
        )
      ) else (
        if x2 < 0 ∨ 3 ≤ x2.toNatClampNeg then none else
        if x1 = (nb_yn x2.toNatClampNeg) then (
          some x2
        ) else (
          f_X1_nameOf_2 n M x1 (x2 + 1)
        )
      )
    )
def f_X1_nameOf (M : nb_M) (p0 : Int32) : Option Int32 :=
  f_X1_nameOf_2 nb_F M p0 (0 : Int32)
def f_X1_readNumber_4 : Nat → nb_M → Int32 → Int32 → Option nb_M
  | 0, _, _, _ => none
  | n + 1, M, x1, x2 =>
    if (4 : Int32) ≤ x2 then (
      nb_o (f_X1_step M x1) fun M_2 =>
      some M_2
    ) else (
      nb_o (f_X1_next M) fun r_3 =>
      if (f_X1_isDigit r_3) = 0 then (
        nb_o (f_X1_step M x1) fun M_6 =>
        some M_6
      ) else (
        nb_o (f_X1_next M) fun r_7 =>
        nb_n ((((10 : Int32) * x1) + r_7) - (48 : Int32)) fun v_8 =>
        nb_n (nb_i M 35 2 ((M.1 35 2) + (1 : Int32))) fun M_9 =>
        f_X1_readNumber_4 n M_9 v_8 (x2 + 1)
      )
    )
def f_X1_readNumber (M : nb_M) : Option nb_M :=
  f_X1_readNumber_4 nb_F M (0 : Int32) (0 : Int32)
def f_X1_readsLevel_50 (rc : Nat → nb_M → Int32 → Int32 → Option (Int32 × nb_M)) : Nat → nb_M → Int32 → Int32 → Int32 → Int32 → Int32 → Option (Int32 × nb_M)
  | 0, _, _, _, _, _, _ => none
  | n + 1, M, x1, x2, x3, x4, x5 =>
    if x3 ≤ x5 then (
      some ((1 : Int32), M)
    ) else (
      if (f_X1_levelOf x4) = x1 then (
        nb_n (nb_i M 35 2 ((M.1 35 2) + (1 : Int32))) fun M_10 =>
        nb_p (rc 0 M_10 (x1 + (1 : Int32)) x2) fun r_11 M_11 =>
        if r_11 = 0 then (
          some ((0 : Int32), M_11)
        ) else (
          nb_o (f_X1_step M_11 ((20000 : Int32) + x4)) fun M_13 =>
          nb_o (f_X1_next M_13) fun r_14 =>
          f_X1_readsLevel_50 rc n M_13 x1 x2 x3 r_14 (x5 + 1)
        )
      ) else (
        some ((1 : Int32), M)
      )
    )
def f_X1_readsLevel (rc : Nat → nb_M → Int32 → Int32 → Option (Int32 × nb_M)) (M : nb_M) (p0 : Int32) (p1 : Int32) : Option (Int32 × nb_M) :=
  if p0 < (5 : Int32) then (
    if (5 : Int32) < p1 then (
      some ((0 : Int32), M)
    ) else (
      nb_p (rc 0 M (p0 + (1 : Int32)) p1) fun r_3 M_3 =>
      if r_3 = 0 then (
        some ((0 : Int32), M_3)
      ) else (
        if p0 = (2 : Int32) then (
          nb_o (f_X1_next M_3) fun r_15 =>
          f_X1_readsLevel_50 rc nb_F M_3 p0 p1 (1 : Int32) r_15 (0 : Int32)
        ) else (
          nb_o (f_X1_next M_3) fun r_6 =>
          f_X1_readsLevel_50 rc nb_F M_3 p0 p1 (60 : Int32) r_6 (0 : Int32)
        )
      )
    )
  ) else (
    nb_p (rc 1 M p1 0) fun r_16 M_16 =>
    if ¬ (r_16 = 0 ∨ r_16 = 1) then none else
    some (r_16, M_16)
  )
def f_X1_readsOne (rc : Nat → nb_M → Int32 → Int32 → Option (Int32 × nb_M)) (M : nb_M) (p0 : Int32) : Option (Int32 × nb_M) :=
  nb_o (f_X1_next M) fun r_1 =>
  if (f_X1_isDigit r_1) = 0 then (
    nb_o (f_X1_nameOf M r_1) fun r_4 =>
    if (3 : Int32) ≤ r_4 then (
      if p0 < (5 : Int32) then (
        if r_1 = (33 : Int32) then (
          nb_p (rc 2 M (p0 + (1 : Int32)) 0) fun r_11 M_11 =>
          if ¬ (r_11 = 0 ∨ r_11 = 1) then none else
          some (r_11, M_11)
        ) else (
          if r_1 = (40 : Int32) then (
            nb_p (rc 3 M (p0 + (1 : Int32)) 0) fun r_9 M_9 =>
            if r_9 = 0 then (
              some ((0 : Int32), M_9)
            ) else (
              some ((1 : Int32), M_9)
            )
          ) else (
            some ((0 : Int32), M)
          )
        )
      ) else (
        some ((0 : Int32), M)
      )
    ) else (
      nb_n (nb_i M 35 2 ((M.1 35 2) + (1 : Int32))) fun M_13 =>
      nb_o (f_X1_step M_13 ((10000 : Int32) + r_4)) fun M_14 =>
      some ((1 : Int32), M_14)
    )
  ) else (
    nb_o (f_X1_readNumber M) fun M_15 =>
    some ((1 : Int32), M_15)
  )
def f_X1_readsNot (rc : Nat → nb_M → Int32 → Int32 → Option (Int32 × nb_M)) (M : nb_M) (p0 : Int32) : Option (Int32 × nb_M) :=
  nb_n (nb_i M 35 2 ((M.1 35 2) + (1 : Int32))) fun M_1 =>
  nb_p (rc 1 M_1 p0 0) fun r_2 M_2 =>
  if r_2 = 0 then (
    some ((0 : Int32), M_2)
  ) else (
    nb_o (f_X1_step M_2 (20033 : Int32)) fun M_4 =>
    some ((1 : Int32), M_4)
  )
def f_X1_readsBraced (rc : Nat → nb_M → Int32 → Int32 → Option (Int32 × nb_M)) (M : nb_M) (p0 : Int32) : Option (Int32 × nb_M) :=
  nb_n (nb_i M 35 2 ((M.1 35 2) + (1 : Int32))) fun M_1 =>
  nb_p (rc 0 M_1 (0 : Int32) p0) fun r_2 M_2 =>
  if r_2 = 0 then (
    some ((0 : Int32), M_2)
  ) else (
    nb_o (f_X1_next M_2) fun r_4 =>
    if r_4 = (41 : Int32) then (
      nb_n (nb_i M_2 35 2 ((M_2.1 35 2) + (1 : Int32))) fun M_6 =>
      some ((1 : Int32), M_6)
    ) else (
      some ((0 : Int32), M_2)
    )
  )
def f_RD : Nat → Nat → nb_M → Int32 → Int32 → Option (Int32 × nb_M)
  | 0, _, _, _, _ => none
  | d + 1, s, M, a, b =>
    if s = 0 then f_X1_readsLevel (f_RD d) M a b
    else if s = 1 then f_X1_readsOne (f_RD d) M a
    else if s = 2 then f_X1_readsNot (f_RD d) M a
    else if s = 3 then f_X1_readsBraced (f_RD d) M a
    else none
def f_X1_readsLevel_x (M : nb_M) (p0 : Int32) (p1 : Int32) : Option (Int32 × nb_M) := f_RD nb_dp 0 M p0 p1
def f_X1_readsOne_x (M : nb_M) (p0 : Int32) : Option (Int32 × nb_M) := f_RD nb_dp 1 M p0 0
def f_X1_readsNot_x (M : nb_M) (p0 : Int32) : Option (Int32 × nb_M) := f_RD nb_dp 2 M p0 0
def f_X1_readsBraced_x (M : nb_M) (p0 : Int32) : Option (Int32 × nb_M) := f_RD nb_dp 3 M p0 0
def f_X1_reads (M : nb_M) (p0 : Int32) (p1 : Int32) : Option (Int32 × nb_M) :=
  nb_n (nb_r M 37 (va_cpy (M.1 10) (M.1 37) (0 : Int32).toNatClampNeg (0 : Int32).toNatClampNeg (60 : Int32).toNatClampNeg)) fun M_1 =>
  nb_n (nb_i M_1 35 4 p0) fun M_2 =>
  nb_n (nb_i M_2 35 5 p1) fun M_3 =>
  nb_n (nb_i M_3 35 2 (0 : Int32)) fun M_4 =>
  nb_n (nb_i M_4 35 1 (0 : Int32)) fun M_5 =>
  nb_p (f_X1_readsLevel_x M_5 (0 : Int32) (0 : Int32)) fun r_6 M_6 =>
  if r_6 = 0 then (
    some ((0 : Int32), M_6)
  ) else (
    if (M_6.1 35 2) = (M_6.1 35 4) then (
      some ((1 : Int32), M_6)
    ) else (
      some ((0 : Int32), M_6)
    )
  )
def f_X3_hold_12_36 (M : nb_M) (p0 : Int32) : Option nb_M :=
  if (0 : Int32) < 0 ∨ (0 : Int32) < 0 ∨ p0 < 0 ∨ 60 < (0 : Int32).toNatClampNeg + p0.toNatClampNeg ∨ 60 < (0 : Int32).toNatClampNeg + p0.toNatClampNeg then none else
  nb_n (nb_r M 13 (va_cpy (M.1 36) (M.1 13) (0 : Int32).toNatClampNeg (0 : Int32).toNatClampNeg p0.toNatClampNeg)) fun M_1 =>
  nb_n (nb_i M_1 12 1 p0) fun M_2 =>
  some M_2
def f_X3_hold_15_36 (M : nb_M) (p0 : Int32) : Option nb_M :=
  if (0 : Int32) < 0 ∨ (0 : Int32) < 0 ∨ p0 < 0 ∨ 60 < (0 : Int32).toNatClampNeg + p0.toNatClampNeg ∨ 60 < (0 : Int32).toNatClampNeg + p0.toNatClampNeg then none else
  nb_n (nb_r M 16 (va_cpy (M.1 36) (M.1 16) (0 : Int32).toNatClampNeg (0 : Int32).toNatClampNeg p0.toNatClampNeg)) fun M_1 =>
  nb_n (nb_i M_1 15 1 p0) fun M_2 =>
  some M_2
def f_X6_text (M : nb_M) (p0 : Int32) : Option (Int32 × nb_M) :=
  if (f_X6_within p0 (1 : Int32)) = 0 then (
    nb_p (f_X6_fail M (1 : Int32)) fun r_10 M_10 =>
    some (r_10, M_10)
  ) else (
    nb_p (f_X1_reads M (M.1 1 13) p0) fun r_3 M_3 =>
    nb_n (nb_i M_3 1 13 (0 : Int32)) fun M_4 =>
    if r_3 = 0 then (
      some ((-10 : Int32) - (M_4.1 35 2), M_4)
    ) else (
      if p0 = 0 then (
        nb_o (f_X3_hold_12_36 M_4 (M_4.1 35 1)) fun M_7 =>
        some ((1 : Int32), M_7)
      ) else (
        if p0 = 1 then (
          nb_o (f_X3_hold_15_36 M_4 (M_4.1 35 1)) fun M_9 =>
          some ((1 : Int32), M_9)
        ) else (
          none
        )
      )
    )
  )
def f_X3_forget_12 (M : nb_M) : nb_M :=
  nb_n (nb_i M 12 1 (0 : Int32)) fun M_1 =>
  M_1
def f_X3_forget_15 (M : nb_M) : nb_M :=
  nb_n (nb_i M 15 1 (0 : Int32)) fun M_1 =>
  M_1
def f_X6_untell (M : nb_M) (p0 : Int32) : Option (Int32 × nb_M) :=
  if (f_X6_within p0 (1 : Int32)) = 0 then (
    nb_p (f_X6_fail M (1 : Int32)) fun r_13 M_13 =>
    some (r_13, M_13)
  ) else (
    if p0 = 0 then (
      nb_n (f_X3_isThere_12 M) fun v_5 =>
      nb_n (f_X3_forget_12 M) fun M_6 =>
      some (f_X6_bit v_5, M_6)
    ) else (
      if p0 = 1 then (
        nb_n (f_X3_isThere_15 M) fun v_10 =>
        nb_n (f_X3_forget_15 M) fun M_11 =>
        some (f_X6_bit v_10, M_11)
      ) else (
        none
      )
    )
  )
def f_X6_law (M : nb_M) (p0 : Int32) (p1 : Int32) (p2 : Int32) (p3 : Int32) : Option (Int32 × nb_M) :=
  if (f_X6_within p0 (1 : Int32)) = 0 then (
    nb_p (f_X6_fail M (1 : Int32)) fun r_4 M_4 =>
    some (r_4, M_4)
  ) else (
    nb_p (f_X0_gives M p0 p1 p2 p3) fun r_3 M_3 =>
    some (r_3, M_3)
  )
def f_X6_days (M : nb_M) (p0 : Int32) : Option (Int32 × nb_M) :=
  if p0 < (1 : Int32) then (
    nb_p (f_X6_fail M (1 : Int32)) fun r_2 M_2 =>
    some (r_2, M_2)
  ) else (
    if p0 ≤ (60 : Int32) then (
      if ((M.1 1 0) + p0) ≤ (9999 : Int32) then (
        nb_n (nb_i M 1 0 ((M.1 1 0) + p0)) fun M_5 =>
        some (M_5.1 1 0, M_5)
      ) else (
        nb_p (f_X6_fail M (3 : Int32)) fun r_6 M_6 =>
        some (r_6, M_6)
      )
    ) else (
      nb_p (f_X6_fail M (1 : Int32)) fun r_7 M_7 =>
      some (r_7, M_7)
    )
  )
def f_X0_draw (M : nb_M) : Int32 × nb_M :=
  nb_n (nb_i M 1 1 (((M.1 1 1) * (1103515245 : Int32)) + (12345 : Int32))) fun M_1 =>
  (((M_1.1 1 1).toUInt32 >>> ((8 : Int32).toUInt32 &&& Int32.toUInt32 31)).toInt32, M_1)
def f_X0_dayByDraws_4 : Nat → nb_M → Int32 → Int32 → Option (Int32 × nb_M)
  | 0, _, _, _ => none
  | n + 1, M, x1, x2 =>
    if (M.1 1 6) ≤ x2 then (
      nb_n (nb_i M 1 0 ((M.1 1 0) + (1 : Int32))) fun M_2 =>
      some (x1, M_2)
    ) else (
      if x2 < 0 ∨ 9 ≤ x2.toNatClampNeg then none else
      nb_n (M.1 7 x2.toNatClampNeg) fun v_4 =>
      if (M.1 8 x2.toNatClampNeg) = 0 then (
        nb_o (f_X0_isThrough M v_4) fun r_6 =>
        if r_6 = 0 then (
          nb_q (f_X0_draw M) fun r_8 M_8 =>
          nb_p (f_X0_riskIn M_8 x2 v_4) fun r_9 M_9 =>
          if r_9 ≤ (r_8 - r_8 / (16 : Int32) * (16 : Int32)) then (
            f_X0_dayByDraws_4 n M_9 x1 (x2 + 1)
          ) else (
            nb_p (f_X0_breakPiece M_9 x2) fun r_11 M_11 =>
            f_X0_dayByDraws_4 n M_11 (x1 + 1) (x2 + 1)
          )
        ) else (
          f_X0_dayByDraws_4 n M x1 (x2 + 1)
        )
      ) else (
        f_X0_dayByDraws_4 n M x1 (x2 + 1)
      )
    )
def f_X0_dayByDraws (M : nb_M) : Option (Int32 × nb_M) :=
  f_X0_dayByDraws_4 nb_F M (0 : Int32) (0 : Int32)
def f_X6_loose_42 : Nat → nb_M → Int32 → Int32 → Int32 → Option (Int32 × nb_M)
  | 0, _, _, _, _ => none
  | n + 1, M, x1, x2, x3 =>
    if x1 ≤ x3 then (
      some (x2, M)
    ) else (
      nb_p (f_X0_dayByDraws M) fun r_6 M_6 =>
      nb_n (x2 + r_6) fun v_7 =>
      f_X6_loose_42 n M_6 x1 v_7 (x3 + 1)
    )
def f_X6_loose (M : nb_M) (p0 : Int32) : Option (Int32 × nb_M) :=
  if p0 < (1 : Int32) then (
    nb_p (f_X6_fail M (1 : Int32)) fun r_2 M_2 =>
    some (r_2, M_2)
  ) else (
    if p0 ≤ (30 : Int32) then (
      if ((M.1 1 0) + p0) ≤ (9999 : Int32) then (
        f_X6_loose_42 nb_F M p0 (0 : Int32) (0 : Int32)
      ) else (
        nb_p (f_X6_fail M (3 : Int32)) fun r_8 M_8 =>
        some (r_8, M_8)
      )
    ) else (
      nb_p (f_X6_fail M (1 : Int32)) fun r_9 M_9 =>
      some (r_9, M_9)
    )
  )
def f_X6_seed (M : nb_M) (p0 : Int32) : Int32 × nb_M :=
  nb_n (nb_i M 1 1 p0) fun M_1 =>
  (M.1 1 1, M_1)
def f_X4_isLeft (M : nb_M) (p0 : Int32) (p1 : Int32) : Option Int32 :=
  if p0 < 0 ∨ 9 ≤ p0.toNatClampNeg then none else
  if (M.1 7 p0.toNatClampNeg) = p1 then (
    if (M.1 8 p0.toNatClampNeg) = 0 then (
      nb_o (f_X0_countsOn M p0 (M.1 1 0)) fun r_4 =>
      if r_4 = 0 then (
        some (0 : Int32)
      ) else (
        some (1 : Int32)
      )
    ) else (
      some (0 : Int32)
    )
  ) else (
    some (0 : Int32)
  )
def f_X4_leftOf_5 : Nat → nb_M → Int32 → Int32 → Int32 → Option Int32
  | 0, _, _, _, _ => none
  | n + 1, M, x2, x3, x4 =>
    if (M.1 1 6) ≤ x4 then (
      some x3
    ) else (
      nb_o (f_X4_isLeft M x4 x2) fun r_2 =>
      if r_2 = 0 then (
        f_X4_leftOf_5 n M x2 x3 (x4 + 1)
      ) else (
        nb_n (x3 ||| ((1 : Int32) <<< (x4 &&& 31))) fun v_4 =>
        f_X4_leftOf_5 n M x2 v_4 (x4 + 1)
      )
    )
def f_X4_leftOf (M : nb_M) (p0 : Int32) : Option Int32 :=
  f_X4_leftOf_5 nb_F M p0 (0 : Int32) (0 : Int32)
def f_J6_bitCount_0f7a4 (p0 : Int32) : Int32 :=
  nb_n (p0 - (((p0.toUInt32 >>> ((1 : Int32).toUInt32 &&& Int32.toUInt32 31)).toInt32) &&& (1431655765 : Int32))) fun v_1 =>
  nb_n ((v_1 &&& (858993459 : Int32)) + (((v_1.toUInt32 >>> ((2 : Int32).toUInt32 &&& Int32.toUInt32 31)).toInt32) &&& (858993459 : Int32))) fun v_2 =>
  nb_n ((v_2 + ((v_2.toUInt32 >>> ((4 : Int32).toUInt32 &&& Int32.toUInt32 31)).toInt32)) &&& (252645135 : Int32)) fun v_3 =>
  nb_n (v_3 + ((v_3.toUInt32 >>> ((8 : Int32).toUInt32 &&& Int32.toUInt32 31)).toInt32)) fun v_4 =>
  nb_n (v_4 + ((v_4.toUInt32 >>> ((16 : Int32).toUInt32 &&& Int32.toUInt32 31)).toInt32)) fun v_5 =>
  v_5 &&& (63 : Int32)
def f_X6_bitsIn (p0 : Int32) : Int32 :=
  f_J6_bitCount_0f7a4 p0
def f_X6_left (M : nb_M) (p0 : Int32) (p1 : Int32) : Option (Int32 × nb_M) :=
  if (f_X0_isPerson M p0) = 0 then (
    nb_p (f_X6_fail M (1 : Int32)) fun r_11 M_11 =>
    some (r_11, M_11)
  ) else (
    if p1 = 0 then (
      nb_o (f_X4_leftOf M p0) fun r_4 =>
      some (r_4, M)
    ) else (
      if p1 = 1 then (
        nb_o (f_X4_leftOf M p0) fun r_6 =>
        some (f_X6_bitsIn r_6, M)
      ) else (
        if p1 = 2 then (
          nb_o (f_X0_toComeOf M p0) fun r_9 =>
          some (r_9, M)
        ) else (
          nb_p (f_X6_fail M (1 : Int32)) fun r_10 M_10 =>
          some (r_10, M_10)
        )
      )
    )
  )
def f_X4_countWays_36 : Nat → nb_M → Int32 → Int64 → Int32 → Option (Int64 × nb_M)
  | 0, _, _, _, _ => none
  | n + 1, M, x2, x3, x5 =>
    if (M.1 1 6) ≤ x5 then (
      some (x3, M)
    ) else (
      nb_o (f_X4_isLeft M x5 x2) fun r_4 =>
      if r_4 = 0 then (
        f_X4_countWays_36 n M x2 x3 (x5 + 1)
      ) else (
        if x2 < 0 ∨ 5 ≤ x2.toNatClampNeg then none else
        nb_p (f_X0_riskBy M x5 (M.1 2 x2.toNatClampNeg)) fun r_7 M_7 =>
        nb_n (nb_l M_7 39 (9 : Int32).toNatClampNeg (((M_7.2 39 (9 : Int32).toNatClampNeg) * (((16 : Int32) - r_7).toInt64)) + ((M_7.2 39 ((9 : Int32) - (1 : Int32)).toNatClampNeg) * r_7.toInt64))) fun M_9 =>
        nb_n (nb_l M_9 39 (8 : Int32).toNatClampNeg (((M_9.2 39 (8 : Int32).toNatClampNeg) * (((16 : Int32) - r_7).toInt64)) + ((M_9.2 39 ((8 : Int32) - (1 : Int32)).toNatClampNeg) * r_7.toInt64))) fun M_11 =>
        nb_n (nb_l M_11 39 (7 : Int32).toNatClampNeg (((M_11.2 39 (7 : Int32).toNatClampNeg) * (((16 : Int32) - r_7).toInt64)) + ((M_11.2 39 ((7 : Int32) - (1 : Int32)).toNatClampNeg) * r_7.toInt64))) fun M_13 =>
        nb_n (nb_l M_13 39 (6 : Int32).toNatClampNeg (((M_13.2 39 (6 : Int32).toNatClampNeg) * (((16 : Int32) - r_7).toInt64)) + ((M_13.2 39 ((6 : Int32) - (1 : Int32)).toNatClampNeg) * r_7.toInt64))) fun M_15 =>
        nb_n (nb_l M_15 39 (5 : Int32).toNatClampNeg (((M_15.2 39 (5 : Int32).toNatClampNeg) * (((16 : Int32) - r_7).toInt64)) + ((M_15.2 39 ((5 : Int32) - (1 : Int32)).toNatClampNeg) * r_7.toInt64))) fun M_17 =>
        nb_n (nb_l M_17 39 (4 : Int32).toNatClampNeg (((M_17.2 39 (4 : Int32).toNatClampNeg) * (((16 : Int32) - r_7).toInt64)) + ((M_17.2 39 ((4 : Int32) - (1 : Int32)).toNatClampNeg) * r_7.toInt64))) fun M_19 =>
        nb_n (nb_l M_19 39 (3 : Int32).toNatClampNeg (((M_19.2 39 (3 : Int32).toNatClampNeg) * (((16 : Int32) - r_7).toInt64)) + ((M_19.2 39 ((3 : Int32) - (1 : Int32)).toNatClampNeg) * r_7.toInt64))) fun M_21 =>
        nb_n (nb_l M_21 39 (2 : Int32).toNatClampNeg (((M_21.2 39 (2 : Int32).toNatClampNeg) * (((16 : Int32) - r_7).toInt64)) + ((M_21.2 39 ((2 : Int32) - (1 : Int32)).toNatClampNeg) * r_7.toInt64))) fun M_23 =>
        nb_n (nb_l M_23 39 (1 : Int32).toNatClampNeg (((M_23.2 39 (1 : Int32).toNatClampNeg) * (((16 : Int32) - r_7).toInt64)) + ((M_23.2 39 ((1 : Int32) - (1 : Int32)).toNatClampNeg) * r_7.toInt64))) fun M_25 =>
        nb_n (nb_l M_25 39 (0 : Int32).toNatClampNeg ((M_25.2 39 (0 : Int32).toNatClampNeg) * (((16 : Int32) - r_7).toInt64))) fun M_27 =>
        nb_n (x3 * (16 : Int64)) fun v_28 =>
        f_X4_countWays_36 n M_27 x2 v_28 (x5 + 1)
      )
    )
def f_X4_countWays_5 : Nat → nb_M → Int32 → Int64 → Int32 → Option (Int64 × nb_M)
  | 0, _, _, _, _ => none
  | n + 1, M, x2, x3, x5 =>
    if (9 : Int32) < x5 then (
      nb_n (nb_l M 39 (0 : Int32).toNatClampNeg (1 : Int64)) fun M_2 =>
      f_X4_countWays_36 nb_F M_2 x2 x3 (0 : Int32)
    ) else (
      if x5 < 0 ∨ 10 ≤ x5.toNatClampNeg then none else
      nb_n (nb_l M 39 x5.toNatClampNeg (0 : Int64)) fun M_30 =>
      f_X4_countWays_5 n M_30 x2 x3 (x5 + 1)
    )
def f_X4_countWays (M : nb_M) (p0 : Int32) : Option (Int64 × nb_M) :=
  f_X4_countWays_5 nb_F M p0 (1 : Int64) (1 : Int32)
def f_X4_setFraction_13 : Nat → nb_M → Int32 → Option nb_M
  | 0, _, _ => none
  | n + 1, M, x5 =>
    if (36 : Int32) ≤ x5 then (
      some M
    ) else (
      if (lg_cmp (M.2 38 1) (1 : Int64)) ≤ 0 then (
        some M
      ) else (
        if (lg_cmp ((M.2 38 0) - (M.2 38 0) / (2 : Int64) * (2 : Int64)) (0 : Int64)) = 0 then (
          nb_n (nb_l M 38 0 ((M.2 38 0) / (2 : Int64))) fun M_6 =>
          nb_n (nb_l M_6 38 1 ((M_6.2 38 1) / (2 : Int64))) fun M_7 =>
          f_X4_setFraction_13 n M_7 (x5 + 1)
        ) else (
          some M
        )
      )
    )
def f_X4_setFraction (M : nb_M) (p0 : Int64) (p1 : Int64) : Option nb_M :=
  nb_n (nb_l M 38 0 p0) fun M_1 =>
  nb_n (nb_l M_1 38 1 p1) fun M_2 =>
  f_X4_setFraction_13 nb_F M_2 (0 : Int32)
def f_X4_thinkOdds (M : nb_M) (p0 : Int32) (p1 : Int32) : Option nb_M :=
  nb_p (f_X4_countWays M p0) fun r_1 M_1 =>
  if p1 < 0 ∨ 10 ≤ p1.toNatClampNeg then none else
  nb_o (f_X4_setFraction M_1 (M_1.2 39 p1.toNatClampNeg) r_1) fun M_3 =>
  some M_3
def f_X6_odds (M : nb_M) (p0 : Int32) (p1 : Int32) (p2 : Int32) : Option (Int64 × nb_M) :=
  if (f_X0_isPerson M p0) = 0 then (
    nb_p (f_X6_fail M (1 : Int32)) fun r_3 M_3 =>
    some (r_3.toInt64, M_3)
  ) else (
    if (f_X6_within p1 (9 : Int32)) = 0 then (
      nb_p (f_X6_fail M (1 : Int32)) fun r_6 M_6 =>
      some (r_6.toInt64, M_6)
    ) else (
      if (f_X6_within p2 (1 : Int32)) = 0 then (
        nb_p (f_X6_fail M (1 : Int32)) fun r_11 M_11 =>
        some (r_11.toInt64, M_11)
      ) else (
        nb_o (f_X4_thinkOdds M p0 p1) fun M_9 =>
        if p2 = 0 then (
          some (M_9.2 38 0, M_9)
        ) else (
          some (M_9.2 38 1, M_9)
        )
      )
    )
  )
def f_X4_thinkOut_17 : Nat → nb_M → Int64 → Int64 → Int32 → Option nb_M
  | 0, _, _, _, _ => none
  | n + 1, M, x3, x5, x7 =>
    if (9 : Int32) < x7 then (
      nb_o (f_X4_setFraction M x5 x3) fun M_4 =>
      some M_4
    ) else (
      if x7 < 0 ∨ 10 ≤ x7.toNatClampNeg then none else
      nb_n (x5 + (M.2 39 x7.toNatClampNeg)) fun v_6 =>
      f_X4_thinkOut_17 n M x3 v_6 (x7 + 1)
    )
def f_X4_thinkOut (M : nb_M) (p0 : Int32) : Option nb_M :=
  nb_p (f_X4_countWays M p0) fun r_1 M_1 =>
  nb_o (f_X0_toComeOf M_1 p0) fun r_2 =>
  f_X4_thinkOut_17 nb_F M_1 r_1 (0 : Int64) r_2
def f_X6_through (M : nb_M) (p0 : Int32) (p1 : Int32) : Option (Int64 × nb_M) :=
  if (f_X0_isPerson M p0) = 0 then (
    nb_p (f_X6_fail M (1 : Int32)) fun r_3 M_3 =>
    some (r_3.toInt64, M_3)
  ) else (
    if (f_X6_within p1 (1 : Int32)) = 0 then (
      nb_p (f_X6_fail M (1 : Int32)) fun r_8 M_8 =>
      some (r_8.toInt64, M_8)
    ) else (
      nb_o (f_X4_thinkOut M p0) fun M_6 =>
      if p1 = 0 then (
        some (M_6.2 38 0, M_6)
      ) else (
        some (M_6.2 38 1, M_6)
      )
    )
  )
def f_X4_safestFor_18 : Nat → nb_M → Int32 → Int32 → Int32 → Int32 → Option (Int32 × nb_M)
  | 0, _, _, _, _, _ => none
  | n + 1, M, x2, x3, x4, x5 =>
    if (M.1 1 2) ≤ x5 then (
      some (x3, M)
    ) else (
      if x5 < 0 ∨ 5 ≤ x5.toNatClampNeg then none else
      nb_p (f_X0_riskBy M x2 (M.1 2 x5.toNatClampNeg)) fun r_4 M_4 =>
      if x4 ≤ r_4 then (
        f_X4_safestFor_18 n M_4 x2 x3 x4 (x5 + 1)
      ) else (
        f_X4_safestFor_18 n M_4 x2 x5 r_4 (x5 + 1)
      )
    )
def f_X4_safestFor (M : nb_M) (p0 : Int32) : Option (Int32 × nb_M) :=
  nb_p (f_X0_riskBy M p0 (M.1 2 (0 : Int32).toNatClampNeg)) fun r_1 M_1 =>
  f_X4_safestFor_18 nb_F M_1 p0 (0 : Int32) r_1 (1 : Int32)
def f_X6_safest (M : nb_M) (p0 : Int32) (p1 : Int32) : Option (Int32 × nb_M) :=
  if (f_X0_isPiece M p0) = 0 then (
    nb_p (f_X6_fail M (1 : Int32)) fun r_3 M_3 =>
    some (r_3, M_3)
  ) else (
    if (f_X6_within p1 (1 : Int32)) = 0 then (
      nb_p (f_X6_fail M (1 : Int32)) fun r_9 M_9 =>
      some (r_9, M_9)
    ) else (
      nb_p (f_X4_safestFor M p0) fun r_6 M_6 =>
      if p1 = 0 then (
        some (r_6, M_6)
      ) else (
        nb_p (f_X0_riskIn M_6 p0 r_6) fun r_8 M_8 =>
        some (r_8, M_8)
      )
    )
  )
def f_X4_savesOf_27 : Nat → nb_M → Int32 → Int32 → Int32 → Int32 → Option Int32
  | 0, _, _, _, _, _ => none
  | n + 1, M, x3, x4, x5, x6 =>
    if (9 : Int32) ≤ x6 then (
      some x5
    ) else (
      if x4 ≤ 0 then (
        some x5
      ) else (
        if ((x3 >>> (x6 &&& 31)) &&& (1 : Int32)) = (1 : Int32) then (
          nb_n (x5 ||| ((1 : Int32) <<< (x6 &&& 31))) fun v_8 =>
          f_X4_savesOf_27 n M x3 (x4 + (-1)) v_8 (x6 + 1)
        ) else (
          f_X4_savesOf_27 n M x3 x4 x5 (x6 + 1)
        )
      )
    )
def f_X4_savesOf (M : nb_M) (p0 : Int32) : Option Int32 :=
  nb_o (f_X4_leftOf M p0) fun r_1 =>
  nb_o (f_X0_toComeOf M p0) fun r_3 =>
  nb_n ((f_X6_bitsIn r_1) - (r_3 - (1 : Int32))) fun v_4 =>
  f_X4_savesOf_27 nb_F M r_1 v_4 (0 : Int32) (0 : Int32)
def f_X6_saves (M : nb_M) (p0 : Int32) (p1 : Int32) : Option (Int32 × nb_M) :=
  if (f_X0_isPerson M p0) = 0 then (
    nb_p (f_X6_fail M (1 : Int32)) fun r_3 M_3 =>
    some (r_3, M_3)
  ) else (
    if (f_X6_within p1 (1 : Int32)) = 0 then (
      nb_p (f_X6_fail M (1 : Int32)) fun r_12 M_12 =>
      some (r_12, M_12)
    ) else (
      nb_o (f_X0_isThrough M p0) fun r_6 =>
      if r_6 = 0 then (
        nb_o (f_X4_savesOf M p0) fun r_8 =>
        if p1 = 0 then (
          some (f_X6_bitsIn r_8, M)
        ) else (
          some (r_8, M)
        )
      ) else (
        nb_p (f_X6_fail M (3 : Int32)) fun r_11 M_11 =>
        some (r_11, M_11)
      )
    )
  )
def f_X4_firstOf_2 : Nat → nb_M → Int32 → Int32 → Option Int32
  | 0, _, _, _ => none
  | n + 1, M, x2, x3 =>
    if (60 : Int32) < x3 then (
      some (-1 : Int32)
    ) else (
      nb_o (f_X0_countsOn M x2 ((M.1 1 0) + x3)) fun r_2 =>
      if r_2 = 0 then (
        f_X4_firstOf_2 n M x2 (x3 + 1)
      ) else (
        some x3
      )
    )
def f_X4_firstOf (M : nb_M) (p0 : Int32) : Option Int32 :=
  f_X4_firstOf_2 nb_F M p0 (0 : Int32)
def f_X6_counts (M : nb_M) (p0 : Int32) : Option (Int32 × nb_M) :=
  if (f_X0_isPiece M p0) = 0 then (
    nb_p (f_X6_fail M (1 : Int32)) fun r_6 M_6 =>
    some (r_6, M_6)
  ) else (
    nb_o (f_X4_firstOf M p0) fun r_3 =>
    if 0 ≤ r_3 then (
      some (r_3, M)
    ) else (
      nb_p (f_X6_fail M (2 : Int32)) fun r_5 M_5 =>
      some (r_5, M_5)
    )
  )
def f_X6_isSheet (p0 : Int32) : Int32 :=
  f_X6_within p0 (3 : Int32)
theorem z_X6_isSheet (p0 : Int32) : f_X6_isSheet p0 = 0 ∨ f_X6_isSheet p0 = 1 := by
  unfold f_X6_isSheet
  exact z_X6_within p0 (3 : Int32)
def f_X2_isMissing_43 (M : nb_M) : Int32 :=
  if (M.1 43 1) = 0 then (
    (1 : Int32)
  ) else (
    (0 : Int32)
  )
theorem z_X2_isMissing_43 (M : nb_M) : f_X2_isMissing_43 M = 0 ∨ f_X2_isMissing_43 M = 1 := by
  unfold f_X2_isMissing_43
  repeat (first | (left; rfl) | (right; rfl) | split)
def f_X4_tellsRisks_38_1_43_3 : Nat → nb_M → Int32 → Int32 → Option (Int32 × nb_M)
  | 0, _, _, _ => none
  | n + 1, M, x3, x4 =>
    if (M.1 43 2) ≤ x4 then (
      some ((1 : Int32), M)
    ) else (
      if (M.1 1 6) ≤ x4 then (
        some ((0 : Int32), M)
      ) else (
        if x4 < 0 ∨ 24 ≤ x4.toNatClampNeg then none else
        nb_p (f_X0_riskBy M x4 x3) fun r_4 M_4 =>
        if (M.1 44 x4.toNatClampNeg) = r_4 then (
          f_X4_tellsRisks_38_1_43_3 n M_4 x3 (x4 + 1)
        ) else (
          some ((0 : Int32), M_4)
        )
      )
    )
def f_X4_tellsRisks_38_1_43 (M : nb_M) (p0 : Int32) : Option (Int32 × nb_M) :=
  f_X4_tellsRisks_38_1_43_3 nb_F M p0 (0 : Int32)
def f_X4_fitsBy_38_1_43_5 : Nat → nb_M → Int32 → Int32 → Option (Int32 × nb_M)
  | 0, _, _, _ => none
  | n + 1, M, x3, x4 =>
    if (9 : Int32) < x4 then (
      some (x3, M)
    ) else (
      nb_p (f_X4_tellsRisks_38_1_43 M x4) fun r_2 M_2 =>
      if r_2 = 0 then (
        f_X4_fitsBy_38_1_43_5 n M_2 x3 (x4 + 1)
      ) else (
        nb_n (x3 ||| ((1 : Int32) <<< (x4 &&& 31))) fun v_4 =>
        f_X4_fitsBy_38_1_43_5 n M_2 v_4 (x4 + 1)
      )
    )
def f_X4_fitsBy_38_1_43 (M : nb_M) : Option (Int32 × nb_M) :=
  f_X4_fitsBy_38_1_43_5 nb_F M (0 : Int32) (0 : Int32)
def f_X6_lowestIn_2 : Nat → Int32 → Int32 → Option Int32
  | 0, _, _ => none
  | n + 1, x0, x1 =>
    if (31 : Int32) ≤ x1 then (
      some x1
    ) else (
      if ((x0 >>> (x1 &&& 31)) &&& (1 : Int32)) = 0 then (
        f_X6_lowestIn_2 n x0 (x1 + 1)
      ) else (
        some x1
      )
    )
def f_X6_lowestIn (p0 : Int32) : Option Int32 :=
  f_X6_lowestIn_2 nb_F p0 (0 : Int32)
def f_X2_isMissing_45 (M : nb_M) : Int32 :=
  if (M.1 45 1) = 0 then (
    (1 : Int32)
  ) else (
    (0 : Int32)
  )
theorem z_X2_isMissing_45 (M : nb_M) : f_X2_isMissing_45 M = 0 ∨ f_X2_isMissing_45 M = 1 := by
  unfold f_X2_isMissing_45
  repeat (first | (left; rfl) | (right; rfl) | split)
def f_X4_tellsRisks_38_1_45_3 : Nat → nb_M → Int32 → Int32 → Option (Int32 × nb_M)
  | 0, _, _, _ => none
  | n + 1, M, x3, x4 =>
    if (M.1 45 2) ≤ x4 then (
      some ((1 : Int32), M)
    ) else (
      if (M.1 1 6) ≤ x4 then (
        some ((0 : Int32), M)
      ) else (
        if x4 < 0 ∨ 24 ≤ x4.toNatClampNeg then none else
        nb_p (f_X0_riskBy M x4 x3) fun r_4 M_4 =>
        if (M.1 46 x4.toNatClampNeg) = r_4 then (
          f_X4_tellsRisks_38_1_45_3 n M_4 x3 (x4 + 1)
        ) else (
          some ((0 : Int32), M_4)
        )
      )
    )
def f_X4_tellsRisks_38_1_45 (M : nb_M) (p0 : Int32) : Option (Int32 × nb_M) :=
  f_X4_tellsRisks_38_1_45_3 nb_F M p0 (0 : Int32)
def f_X4_fitsBy_38_1_45_5 : Nat → nb_M → Int32 → Int32 → Option (Int32 × nb_M)
  | 0, _, _, _ => none
  | n + 1, M, x3, x4 =>
    if (9 : Int32) < x4 then (
      some (x3, M)
    ) else (
      nb_p (f_X4_tellsRisks_38_1_45 M x4) fun r_2 M_2 =>
      if r_2 = 0 then (
        f_X4_fitsBy_38_1_45_5 n M_2 x3 (x4 + 1)
      ) else (
        nb_n (x3 ||| ((1 : Int32) <<< (x4 &&& 31))) fun v_4 =>
        f_X4_fitsBy_38_1_45_5 n M_2 v_4 (x4 + 1)
      )
    )
def f_X4_fitsBy_38_1_45 (M : nb_M) : Option (Int32 × nb_M) :=
  f_X4_fitsBy_38_1_45_5 nb_F M (0 : Int32) (0 : Int32)
def f_X2_isMissing_47 (M : nb_M) : Int32 :=
  if (M.1 47 1) = 0 then (
    (1 : Int32)
  ) else (
    (0 : Int32)
  )
theorem z_X2_isMissing_47 (M : nb_M) : f_X2_isMissing_47 M = 0 ∨ f_X2_isMissing_47 M = 1 := by
  unfold f_X2_isMissing_47
  repeat (first | (left; rfl) | (right; rfl) | split)
def f_X4_tellsRisks_38_1_47_3 : Nat → nb_M → Int32 → Int32 → Option (Int32 × nb_M)
  | 0, _, _, _ => none
  | n + 1, M, x3, x4 =>
    if (M.1 47 2) ≤ x4 then (
      some ((1 : Int32), M)
    ) else (
      if (M.1 1 6) ≤ x4 then (
        some ((0 : Int32), M)
      ) else (
        if x4 < 0 ∨ 24 ≤ x4.toNatClampNeg then none else
        nb_p (f_X0_riskBy M x4 x3) fun r_4 M_4 =>
        if (M.1 48 x4.toNatClampNeg) = r_4 then (
          f_X4_tellsRisks_38_1_47_3 n M_4 x3 (x4 + 1)
        ) else (
          some ((0 : Int32), M_4)
        )
      )
    )
def f_X4_tellsRisks_38_1_47 (M : nb_M) (p0 : Int32) : Option (Int32 × nb_M) :=
  f_X4_tellsRisks_38_1_47_3 nb_F M p0 (0 : Int32)
def f_X4_fitsBy_38_1_47_5 : Nat → nb_M → Int32 → Int32 → Option (Int32 × nb_M)
  | 0, _, _, _ => none
  | n + 1, M, x3, x4 =>
    if (9 : Int32) < x4 then (
      some (x3, M)
    ) else (
      nb_p (f_X4_tellsRisks_38_1_47 M x4) fun r_2 M_2 =>
      if r_2 = 0 then (
        f_X4_fitsBy_38_1_47_5 n M_2 x3 (x4 + 1)
      ) else (
        nb_n (x3 ||| ((1 : Int32) <<< (x4 &&& 31))) fun v_4 =>
        f_X4_fitsBy_38_1_47_5 n M_2 v_4 (x4 + 1)
      )
    )
def f_X4_fitsBy_38_1_47 (M : nb_M) : Option (Int32 × nb_M) :=
  f_X4_fitsBy_38_1_47_5 nb_F M (0 : Int32) (0 : Int32)
def f_X2_isMissing_49 (M : nb_M) : Int32 :=
  if (M.1 49 1) = 0 then (
    (1 : Int32)
  ) else (
    (0 : Int32)
  )
theorem z_X2_isMissing_49 (M : nb_M) : f_X2_isMissing_49 M = 0 ∨ f_X2_isMissing_49 M = 1 := by
  unfold f_X2_isMissing_49
  repeat (first | (left; rfl) | (right; rfl) | split)
def f_X4_tellsRisks_38_1_49_3 : Nat → nb_M → Int32 → Int32 → Option (Int32 × nb_M)
  | 0, _, _, _ => none
  | n + 1, M, x3, x4 =>
    if (M.1 49 2) ≤ x4 then (
      some ((1 : Int32), M)
    ) else (
      if (M.1 1 6) ≤ x4 then (
        some ((0 : Int32), M)
      ) else (
        if x4 < 0 ∨ 24 ≤ x4.toNatClampNeg then none else
        nb_p (f_X0_riskBy M x4 x3) fun r_4 M_4 =>
        if (M.1 50 x4.toNatClampNeg) = r_4 then (
          f_X4_tellsRisks_38_1_49_3 n M_4 x3 (x4 + 1)
        ) else (
          some ((0 : Int32), M_4)
        )
      )
    )
def f_X4_tellsRisks_38_1_49 (M : nb_M) (p0 : Int32) : Option (Int32 × nb_M) :=
  f_X4_tellsRisks_38_1_49_3 nb_F M p0 (0 : Int32)
def f_X4_fitsBy_38_1_49_5 : Nat → nb_M → Int32 → Int32 → Option (Int32 × nb_M)
  | 0, _, _, _ => none
  | n + 1, M, x3, x4 =>
    if (9 : Int32) < x4 then (
      some (x3, M)
    ) else (
      nb_p (f_X4_tellsRisks_38_1_49 M x4) fun r_2 M_2 =>
      if r_2 = 0 then (
        f_X4_fitsBy_38_1_49_5 n M_2 x3 (x4 + 1)
      ) else (
        nb_n (x3 ||| ((1 : Int32) <<< (x4 &&& 31))) fun v_4 =>
        f_X4_fitsBy_38_1_49_5 n M_2 v_4 (x4 + 1)
      )
    )
def f_X4_fitsBy_38_1_49 (M : nb_M) : Option (Int32 × nb_M) :=
  f_X4_fitsBy_38_1_49_5 nb_F M (0 : Int32) (0 : Int32)
def f_X6_fits (M : nb_M) (p0 : Int32) (p1 : Int32) (p2 : Int32) : Option (Int32 × nb_M) :=
  if (f_X6_isSheet p0) = 0 then (
    nb_p (f_X6_fail M (1 : Int32)) fun r_3 M_3 =>
    some (r_3, M_3)
  ) else (
    if (f_X0_isPerson M p1) = 0 then (
      nb_p (f_X6_fail M (1 : Int32)) fun r_6 M_6 =>
      some (r_6, M_6)
    ) else (
      if (f_X6_within p2 (1 : Int32)) = 0 then (
        nb_p (f_X6_fail M (1 : Int32)) fun r_45 M_45 =>
        some (r_45, M_45)
      ) else (
        if p0 = 0 then (
          if (f_X2_isMissing_43 M) = 0 then (
            nb_p (f_X4_fitsBy_38_1_43 M) fun r_12 M_12 =>
            if p2 = 0 then (
              some (r_12, M_12)
            ) else (
              if r_12 = 0 then (
                nb_p (f_X6_fail M_12 (2 : Int32)) fun r_16 M_16 =>
                some (r_16, M_16)
              ) else (
                nb_o (f_X6_lowestIn r_12) fun r_15 =>
                some (r_15, M_12)
              )
            )
          ) else (
            nb_p (f_X6_fail M (2 : Int32)) fun r_17 M_17 =>
            some (r_17, M_17)
          )
        ) else (
          if p0 = 1 then (
            if (f_X2_isMissing_45 M) = 0 then (
              nb_p (f_X4_fitsBy_38_1_45 M) fun r_21 M_21 =>
              if p2 = 0 then (
                some (r_21, M_21)
              ) else (
                if r_21 = 0 then (
                  nb_p (f_X6_fail M_21 (2 : Int32)) fun r_25 M_25 =>
                  some (r_25, M_25)
                ) else (
                  nb_o (f_X6_lowestIn r_21) fun r_24 =>
                  some (r_24, M_21)
                )
              )
            ) else (
              nb_p (f_X6_fail M (2 : Int32)) fun r_26 M_26 =>
              some (r_26, M_26)
            )
          ) else (
            if p0 = 2 then (
              if (f_X2_isMissing_47 M) = 0 then (
                nb_p (f_X4_fitsBy_38_1_47 M) fun r_30 M_30 =>
                if p2 = 0 then (
                  some (r_30, M_30)
                ) else (
                  if r_30 = 0 then (
                    nb_p (f_X6_fail M_30 (2 : Int32)) fun r_34 M_34 =>
                    some (r_34, M_34)
                  ) else (
                    nb_o (f_X6_lowestIn r_30) fun r_33 =>
                    some (r_33, M_30)
                  )
                )
              ) else (
                nb_p (f_X6_fail M (2 : Int32)) fun r_35 M_35 =>
                some (r_35, M_35)
              )
            ) else (
              if p0 = 3 then (
                if (f_X2_isMissing_49 M) = 0 then (
                  nb_p (f_X4_fitsBy_38_1_49 M) fun r_39 M_39 =>
                  if p2 = 0 then (
                    some (r_39, M_39)
                  ) else (
                    if r_39 = 0 then (
                      nb_p (f_X6_fail M_39 (2 : Int32)) fun r_43 M_43 =>
                      some (r_43, M_43)
                    ) else (
                      nb_o (f_X6_lowestIn r_39) fun r_42 =>
                      some (r_42, M_39)
                    )
                  )
                ) else (
                  nb_p (f_X6_fail M (2 : Int32)) fun r_44 M_44 =>
                  some (r_44, M_44)
                )
              ) else (
                none
              )
            )
          )
        )
      )
    )
  )
def f_X5_turnTo (M : nb_M) (p0 : Int32) (p1 : Int32) (p2 : Int32) : nb_M :=
  nb_n (nb_i M 40 3 p0) fun M_1 =>
  nb_n (nb_i M_1 40 4 p1) fun M_2 =>
  nb_n (nb_i M_2 40 5 p2) fun M_3 =>
  nb_n (nb_i M_3 40 1 (0 : Int32)) fun M_4 =>
  nb_n (nb_i M_4 40 2 (0 : Int32)) fun M_5 =>
  M_5
def f_X5_begins (M : nb_M) (p0 : Int32) : Option nb_M :=
  if (30 : Int32) ≤ (M.1 40 1) then (
    some M
  ) else (
    if M.1 40 1 < 0 ∨ 30 ≤ (M.1 40 1).toNatClampNeg then none else
    nb_n (nb_i M 41 (M.1 40 1).toNatClampNeg p0) fun M_3 =>
    nb_n (nb_i M_3 40 1 ((M_3.1 40 1) + (1 : Int32))) fun M_4 =>
    some M_4
  )
def f_X5_rings (rc : Nat → nb_M → Int32 → Int32 → Option (Int32 × nb_M)) (M : nb_M) (p0 : Int32) (p1 : Int32) : Option (Int32 × nb_M) :=
  if p0 = 1 then (
    nb_o (f_X5_begins M (20 : Int32)) fun M_2 =>
    nb_p (rc 0 M_2 (0 : Int32) p1) fun r_3 M_3 =>
    some (r_3 - (4 : Int32), M_3)
  ) else (
    if p0 = 4 then (
      nb_o (f_X5_begins M (50 : Int32)) fun M_5 =>
      nb_p (rc 0 M_5 (1 : Int32) p1) fun r_6 M_6 =>
      some (r_6 * (3 : Int32), M_6)
    ) else (
      if p0 = 6 then (
        nb_o (f_X5_begins M (70 : Int32)) fun M_8 =>
        some ((9 : Int32), M_8)
      ) else (
        nb_o (f_X5_begins M (10 : Int32)) fun M_9 =>
        some (p1 + (M_9.1 40 4), M_9)
      )
    )
  )
def f_VR : Nat → Nat → nb_M → Int32 → Int32 → Option (Int32 × nb_M)
  | 0, _, _, _, _ => none
  | d + 1, s, M, a, b =>
    if s = 0 then f_X5_rings (f_VR d) M a b
    else none
def f_X5_rings_x (M : nb_M) (p0 : Int32) (p1 : Int32) : Option (Int32 × nb_M) := f_VR nb_dp 0 M p0 p1
def f_X5_slips (rc : Nat → nb_M → Int32 → Int32 → Option (Int32 × nb_M)) (M : nb_M) (p0 : Int32) (p1 : Int32) : Option (Int32 × nb_M) :=
  if p0 = 2 then (
    nb_o (f_X5_begins M (30 : Int32)) fun M_2 =>
    nb_p (rc 0 M_2 (0 : Int32) p1) fun r_3 M_3 =>
    some ((0 : Int32) - r_3, M_3)
  ) else (
    if p0 = 5 then (
      nb_o (f_X5_begins M (60 : Int32)) fun M_5 =>
      nb_p (rc 0 M_5 (2 : Int32) (p1 + (1 : Int32))) fun r_6 M_6 =>
      some (r_6, M_6)
    ) else (
      if p0 = 6 then (
        nb_o (f_X5_begins M (71 : Int32)) fun M_8 =>
        nb_p (rc 0 M_8 (0 : Int32) p1) fun r_9 M_9 =>
        some (r_9 + (M_9.1 40 5), M_9)
      ) else (
        nb_o (f_X5_begins M (11 : Int32)) fun M_10 =>
        nb_p (f_X5_rings_x M_10 (M_10.1 40 3) p1) fun r_11 M_11 =>
        some (r_11 * (2 : Int32), M_11)
      )
    )
  )
def f_VS : Nat → Nat → nb_M → Int32 → Int32 → Option (Int32 × nb_M)
  | 0, _, _, _, _ => none
  | d + 1, s, M, a, b =>
    if s = 0 then f_X5_slips (f_VS d) M a b
    else none
def f_X5_slips_x (M : nb_M) (p0 : Int32) (p1 : Int32) : Option (Int32 × nb_M) := f_VS nb_dp 0 M p0 p1
def f_X5_cracks (rc : Nat → nb_M → Int32 → Int32 → Option (Int32 × nb_M)) (M : nb_M) (p0 : Int32) (p1 : Int32) : Option (Int32 × nb_M) :=
  if p0 = 3 then (
    nb_o (f_X5_begins M (40 : Int32)) fun M_2 =>
    nb_p (rc 0 M_2 (0 : Int32) (p1 / (2 : Int32))) fun r_3 M_3 =>
    some (r_3, M_3)
  ) else (
    if p0 = 4 then (
      nb_o (f_X5_begins M (51 : Int32)) fun M_5 =>
      nb_p (rc 0 M_5 (1 : Int32) p1) fun r_6 M_6 =>
      some (r_6 ^^^ (M_6.1 40 4), M_6)
    ) else (
      nb_o (f_X5_begins M (12 : Int32)) fun M_7 =>
      nb_p (f_X5_slips_x M_7 (M_7.1 40 3) p1) fun r_8 M_8 =>
      some (r_8 - (M_8.1 40 5), M_8)
    )
  )
def f_VC : Nat → Nat → nb_M → Int32 → Int32 → Option (Int32 × nb_M)
  | 0, _, _, _, _ => none
  | d + 1, s, M, a, b =>
    if s = 0 then f_X5_cracks (f_VC d) M a b
    else none
def f_X5_cracks_x (M : nb_M) (p0 : Int32) (p1 : Int32) : Option (Int32 × nb_M) := f_VC nb_dp 0 M p0 p1
def f_X5_parts_10 (rc : Nat → nb_M → Int32 → Int32 → Option (Int32 × nb_M)) (M : nb_M) (x2 : Int32) : Option (Int32 × nb_M) :=
  nb_o (f_X5_begins M (21 : Int32)) fun M_2 =>
  nb_p (rc 0 M_2 (0 : Int32) x2) fun r_3 M_3 =>
  if (M_3.1 40 2) = 0 then (
    nb_p (f_X5_slips_x M_3 (M_3.1 40 3) (1 : Int32)) fun r_5 M_5 =>
    some (r_3 + r_5, M_5)
  ) else (
    some ((0 : Int32), M_3)
  )
def f_X5_parts (rc : Nat → nb_M → Int32 → Int32 → Option (Int32 × nb_M)) (M : nb_M) (p0 : Int32) (p1 : Int32) : Option (Int32 × nb_M) :=
  if p0 = (1 : Int32) then (
    f_X5_parts_10 rc M p1
  ) else (
    if p0 = (4 : Int32) then (
      f_X5_parts_10 rc M p1
    ) else (
      nb_o (f_X5_begins M (13 : Int32)) fun M_7 =>
      nb_n ((M_7.1 40 5) - (M_7.1 40 4)) fun v_8 =>
      if v_8 = 0 then (
        nb_n (nb_i M_7 40 2 (1 : Int32)) fun M_13 =>
        if (M_13.1 40 2) = 0 then (
          if v_8 = 0 then none else
          some (p1 / v_8, M_13)
        ) else (
          some ((0 : Int32), M_13)
        )
      ) else (
        nb_n (nb_i M_7 40 2 (0 : Int32)) fun M_10 =>
        if (M_10.1 40 2) = 0 then (
          if v_8 = 0 then none else
          some (p1 / v_8, M_10)
        ) else (
          some ((0 : Int32), M_10)
        )
      )
    )
  )
def f_VP : Nat → Nat → nb_M → Int32 → Int32 → Option (Int32 × nb_M)
  | 0, _, _, _, _ => none
  | d + 1, s, M, a, b =>
    if s = 0 then f_X5_parts (f_VP d) M a b
    else none
def f_X5_parts_x (M : nb_M) (p0 : Int32) (p1 : Int32) : Option (Int32 × nb_M) := f_VP nb_dp 0 M p0 p1
def f_X5_say (M : nb_M) (p0 : Int32) (p1 : Int32) : Option (Int32 × nb_M) :=
  if p0 = 0 then (
    nb_p (f_X5_rings_x M (M.1 40 3) p1) fun r_2 M_2 =>
    some (r_2, M_2)
  ) else (
    if p0 = 1 then (
      nb_p (f_X5_slips_x M (M.1 40 3) p1) fun r_4 M_4 =>
      some (r_4, M_4)
    ) else (
      if p0 = 2 then (
        nb_p (f_X5_cracks_x M (M.1 40 3) p1) fun r_6 M_6 =>
        some (r_6, M_6)
      ) else (
        nb_p (f_X5_parts_x M (M.1 40 3) p1) fun r_7 M_7 =>
        some (r_7, M_7)
      )
    )
  )
def f_X6_voice (M : nb_M) (p0 : Int32) (p1 : Int32) (p2 : Int32) : Option (Int32 × nb_M) :=
  if (f_X0_isPiece M p0) = 0 then (
    nb_p (f_X6_fail M (1 : Int32)) fun r_3 M_3 =>
    some (r_3, M_3)
  ) else (
    if (f_X6_within p1 (3 : Int32)) = 0 then (
      nb_p (f_X6_fail M (1 : Int32)) fun r_11 M_11 =>
      some (r_11, M_11)
    ) else (
      if p0 < 0 ∨ 9 ≤ p0.toNatClampNeg then none else
      nb_n (f_X5_turnTo M (M.1 5 p0.toNatClampNeg) p0 (M.1 6 p0.toNatClampNeg)) fun M_7 =>
      nb_p (f_X5_say M_7 p1 p2) fun r_8 M_8 =>
      if (M_8.1 40 2) = 0 then (
        some (r_8, M_8)
      ) else (
        nb_p (f_X6_fail M_8 (6 : Int32)) fun r_10 M_10 =>
        some (r_10, M_10)
      )
    )
  )
def f_X6_body (M : nb_M) (p0 : Int32) : Option (Int32 × nb_M) :=
  if p0 < 0 then (
    nb_p (f_X6_fail M (2 : Int32)) fun r_2 M_2 =>
    some (r_2, M_2)
  ) else (
    if p0 < (M.1 40 1) then (
      if p0 < 0 ∨ 30 ≤ p0.toNatClampNeg then none else
      some (M.1 41 p0.toNatClampNeg, M)
    ) else (
      nb_p (f_X6_fail M (2 : Int32)) fun r_5 M_5 =>
      some (r_5, M_5)
    )
  )
def f_X6_isWidth (p0 : Int32) : Int32 :=
  if p0 = 0 then (
    (1 : Int32)
  ) else (
    if p0 = (8 : Int32) then (
      (1 : Int32)
    ) else (
      if p0 = (16 : Int32) then (
        (1 : Int32)
      ) else (
        if p0 = (32 : Int32) then (
          (1 : Int32)
        ) else (
          (0 : Int32)
        )
      )
    )
  )
theorem z_X6_isWidth (p0 : Int32) : f_X6_isWidth p0 = 0 ∨ f_X6_isWidth p0 = 1 := by
  unfold f_X6_isWidth
  repeat (first | (left; rfl) | (right; rfl) | split)
def f_X2_begin_43_12 : Nat → nb_M → Int32 → Option nb_M
  | 0, _, _ => none
  | n + 1, M, x3 =>
    if (24 : Int32) ≤ x3 then (
      some M
    ) else (
      if x3 < 0 ∨ 24 ≤ x3.toNatClampNeg then none else
      nb_n (nb_i M 44 x3.toNatClampNeg (0 : Int32)) fun M_5 =>
      f_X2_begin_43_12 n M_5 (x3 + 1)
    )
def f_X2_begin_43 (M : nb_M) (p0 : Int32) (p1 : Int32) : Option nb_M :=
  nb_n (nb_i M 43 1 p0) fun M_1 =>
  nb_n (nb_i M_1 43 2 p1) fun M_2 =>
  f_X2_begin_43_12 nb_F M_2 (0 : Int32)
def f_X2_begin_45_12 : Nat → nb_M → Int32 → Option nb_M
  | 0, _, _ => none
  | n + 1, M, x3 =>
    if (24 : Int32) ≤ x3 then (
      some M
    ) else (
      if x3 < 0 ∨ 24 ≤ x3.toNatClampNeg then none else
      nb_n (nb_i M 46 x3.toNatClampNeg (0 : Int32)) fun M_5 =>
      f_X2_begin_45_12 n M_5 (x3 + 1)
    )
def f_X2_begin_45 (M : nb_M) (p0 : Int32) (p1 : Int32) : Option nb_M :=
  nb_n (nb_i M 45 1 p0) fun M_1 =>
  nb_n (nb_i M_1 45 2 p1) fun M_2 =>
  f_X2_begin_45_12 nb_F M_2 (0 : Int32)
def f_X2_begin_47_12 : Nat → nb_M → Int32 → Option nb_M
  | 0, _, _ => none
  | n + 1, M, x3 =>
    if (24 : Int32) ≤ x3 then (
      some M
    ) else (
      if x3 < 0 ∨ 24 ≤ x3.toNatClampNeg then none else
      nb_n (nb_i M 48 x3.toNatClampNeg (0 : Int32)) fun M_5 =>
      f_X2_begin_47_12 n M_5 (x3 + 1)
    )
def f_X2_begin_47 (M : nb_M) (p0 : Int32) (p1 : Int32) : Option nb_M :=
  nb_n (nb_i M 47 1 p0) fun M_1 =>
  nb_n (nb_i M_1 47 2 p1) fun M_2 =>
  f_X2_begin_47_12 nb_F M_2 (0 : Int32)
def f_X2_begin_49_12 : Nat → nb_M → Int32 → Option nb_M
  | 0, _, _ => none
  | n + 1, M, x3 =>
    if (24 : Int32) ≤ x3 then (
      some M
    ) else (
      if x3 < 0 ∨ 24 ≤ x3.toNatClampNeg then none else
      nb_n (nb_i M 50 x3.toNatClampNeg (0 : Int32)) fun M_5 =>
      f_X2_begin_49_12 n M_5 (x3 + 1)
    )
def f_X2_begin_49 (M : nb_M) (p0 : Int32) (p1 : Int32) : Option nb_M :=
  nb_n (nb_i M 49 1 p0) fun M_1 =>
  nb_n (nb_i M_1 49 2 p1) fun M_2 =>
  f_X2_begin_49_12 nb_F M_2 (0 : Int32)
def f_X6_sheet (M : nb_M) (p0 : Int32) (p1 : Int32) (p2 : Int32) : Option (Int32 × nb_M) :=
  if (f_X6_isSheet p0) = 0 then (
    nb_p (f_X6_fail M (1 : Int32)) fun r_3 M_3 =>
    some (r_3, M_3)
  ) else (
    if (f_X6_isWidth p1) = 0 then (
      nb_p (f_X6_fail M (1 : Int32)) fun r_27 M_27 =>
      some (r_27, M_27)
    ) else (
      if p1 = 0 then (
        if p0 = 0 then (
          nb_o (f_X2_begin_43 M (0 : Int32) (0 : Int32)) fun M_20 =>
          some ((1 : Int32), M_20)
        ) else (
          if p0 = 1 then (
            nb_o (f_X2_begin_45 M (0 : Int32) (0 : Int32)) fun M_22 =>
            some ((1 : Int32), M_22)
          ) else (
            if p0 = 2 then (
              nb_o (f_X2_begin_47 M (0 : Int32) (0 : Int32)) fun M_24 =>
              some ((1 : Int32), M_24)
            ) else (
              if p0 = 3 then (
                nb_o (f_X2_begin_49 M (0 : Int32) (0 : Int32)) fun M_26 =>
                some ((1 : Int32), M_26)
              ) else (
                none
              )
            )
          )
        )
      ) else (
        if 0 ≤ p2 then (
          if p2 ≤ (24 : Int32) then (
            if p0 = 0 then (
              nb_o (f_X2_begin_43 M p1 p2) fun M_10 =>
              some ((1 : Int32), M_10)
            ) else (
              if p0 = 1 then (
                nb_o (f_X2_begin_45 M p1 p2) fun M_12 =>
                some ((1 : Int32), M_12)
              ) else (
                if p0 = 2 then (
                  nb_o (f_X2_begin_47 M p1 p2) fun M_14 =>
                  some ((1 : Int32), M_14)
                ) else (
                  if p0 = 3 then (
                    nb_o (f_X2_begin_49 M p1 p2) fun M_16 =>
                    some ((1 : Int32), M_16)
                  ) else (
                    none
                  )
                )
              )
            )
          ) else (
            nb_p (f_X6_fail M (1 : Int32)) fun r_17 M_17 =>
            some (r_17, M_17)
          )
        ) else (
          nb_p (f_X6_fail M (3 : Int32)) fun r_18 M_18 =>
          some (r_18, M_18)
        )
      )
    )
  )
def f_X2_lowestBits_43 (M : nb_M) (p0 : Int32) : Int32 :=
  if (M.1 43 1) = (8 : Int32) then (
    p0.toInt8.toInt32
  ) else (
    if (M.1 43 1) = (16 : Int32) then (
      p0.toInt16.toInt32
    ) else (
      p0
    )
  )
def f_X2_lowestBits_45 (M : nb_M) (p0 : Int32) : Int32 :=
  if (M.1 45 1) = (8 : Int32) then (
    p0.toInt8.toInt32
  ) else (
    if (M.1 45 1) = (16 : Int32) then (
      p0.toInt16.toInt32
    ) else (
      p0
    )
  )
def f_X2_lowestBits_47 (M : nb_M) (p0 : Int32) : Int32 :=
  if (M.1 47 1) = (8 : Int32) then (
    p0.toInt8.toInt32
  ) else (
    if (M.1 47 1) = (16 : Int32) then (
      p0.toInt16.toInt32
    ) else (
      p0
    )
  )
def f_X2_lowestBits_49 (M : nb_M) (p0 : Int32) : Int32 :=
  if (M.1 49 1) = (8 : Int32) then (
    p0.toInt8.toInt32
  ) else (
    if (M.1 49 1) = (16 : Int32) then (
      p0.toInt16.toInt32
    ) else (
      p0
    )
  )
def f_X6_put (M : nb_M) (p0 : Int32) (p1 : Int32) (p2 : Int32) : Option (Int32 × nb_M) :=
  if (f_X6_isSheet p0) = 0 then (
    nb_p (f_X6_fail M (1 : Int32)) fun r_47 M_47 =>
    some (r_47, M_47)
  ) else (
    if p0 = 0 then (
      if (f_X2_isMissing_43 M) = 0 then (
        if p1 < 0 then (
          nb_p (f_X6_fail M (1 : Int32)) fun r_7 M_7 =>
          some (r_7, M_7)
        ) else (
          if p1 < (M.1 43 2) then (
            if p1 < 0 ∨ 24 ≤ p1.toNatClampNeg then none else
            nb_n (nb_i M 44 p1.toNatClampNeg (f_X2_lowestBits_43 M p2)) fun M_11 =>
            some ((1 : Int32), M_11)
          ) else (
            nb_p (f_X6_fail M (1 : Int32)) fun r_12 M_12 =>
            some (r_12, M_12)
          )
        )
      ) else (
        nb_p (f_X6_fail M (2 : Int32)) fun r_13 M_13 =>
        some (r_13, M_13)
      )
    ) else (
      if p0 = 1 then (
        if (f_X2_isMissing_45 M) = 0 then (
          if p1 < 0 then (
            nb_p (f_X6_fail M (1 : Int32)) fun r_18 M_18 =>
            some (r_18, M_18)
          ) else (
            if p1 < (M.1 45 2) then (
              if p1 < 0 ∨ 24 ≤ p1.toNatClampNeg then none else
              nb_n (nb_i M 46 p1.toNatClampNeg (f_X2_lowestBits_45 M p2)) fun M_22 =>
              some ((1 : Int32), M_22)
            ) else (
              nb_p (f_X6_fail M (1 : Int32)) fun r_23 M_23 =>
              some (r_23, M_23)
            )
          )
        ) else (
          nb_p (f_X6_fail M (2 : Int32)) fun r_24 M_24 =>
          some (r_24, M_24)
        )
      ) else (
        if p0 = 2 then (
          if (f_X2_isMissing_47 M) = 0 then (
            if p1 < 0 then (
              nb_p (f_X6_fail M (1 : Int32)) fun r_29 M_29 =>
              some (r_29, M_29)
            ) else (
              if p1 < (M.1 47 2) then (
                if p1 < 0 ∨ 24 ≤ p1.toNatClampNeg then none else
                nb_n (nb_i M 48 p1.toNatClampNeg (f_X2_lowestBits_47 M p2)) fun M_33 =>
                some ((1 : Int32), M_33)
              ) else (
                nb_p (f_X6_fail M (1 : Int32)) fun r_34 M_34 =>
                some (r_34, M_34)
              )
            )
          ) else (
            nb_p (f_X6_fail M (2 : Int32)) fun r_35 M_35 =>
            some (r_35, M_35)
          )
        ) else (
          if p0 = 3 then (
            if (f_X2_isMissing_49 M) = 0 then (
              if p1 < 0 then (
                nb_p (f_X6_fail M (1 : Int32)) fun r_40 M_40 =>
                some (r_40, M_40)
              ) else (
                if p1 < (M.1 49 2) then (
                  if p1 < 0 ∨ 24 ≤ p1.toNatClampNeg then none else
                  nb_n (nb_i M 50 p1.toNatClampNeg (f_X2_lowestBits_49 M p2)) fun M_44 =>
                  some ((1 : Int32), M_44)
                ) else (
                  nb_p (f_X6_fail M (1 : Int32)) fun r_45 M_45 =>
                  some (r_45, M_45)
                )
              )
            ) else (
              nb_p (f_X6_fail M (2 : Int32)) fun r_46 M_46 =>
              some (r_46, M_46)
            )
          ) else (
            none
          )
        )
      )
    )
  )
def f_X2_has_43 (M : nb_M) (p0 : Int32) (p1 : Int32) : Int32 :=
  if p0 < 0 then (
    (0 : Int32)
  ) else (
    if p1 < 0 then (
      (0 : Int32)
    ) else (
      if (M.1 43 2) < p0 then (
        (0 : Int32)
      ) else (
        if ((M.1 43 2) - p0) < p1 then (
          (0 : Int32)
        ) else (
          (1 : Int32)
        )
      )
    )
  )
theorem z_X2_has_43 (M : nb_M) (p0 : Int32) (p1 : Int32) : f_X2_has_43 M p0 p1 = 0 ∨ f_X2_has_43 M p0 p1 = 1 := by
  unfold f_X2_has_43
  repeat (first | (left; rfl) | (right; rfl) | split)
def f_X2_has_45 (M : nb_M) (p0 : Int32) (p1 : Int32) : Int32 :=
  if p0 < 0 then (
    (0 : Int32)
  ) else (
    if p1 < 0 then (
      (0 : Int32)
    ) else (
      if (M.1 45 2) < p0 then (
        (0 : Int32)
      ) else (
        if ((M.1 45 2) - p0) < p1 then (
          (0 : Int32)
        ) else (
          (1 : Int32)
        )
      )
    )
  )
theorem z_X2_has_45 (M : nb_M) (p0 : Int32) (p1 : Int32) : f_X2_has_45 M p0 p1 = 0 ∨ f_X2_has_45 M p0 p1 = 1 := by
  unfold f_X2_has_45
  repeat (first | (left; rfl) | (right; rfl) | split)
def f_X2_has_47 (M : nb_M) (p0 : Int32) (p1 : Int32) : Int32 :=
  if p0 < 0 then (
    (0 : Int32)
  ) else (
    if p1 < 0 then (
      (0 : Int32)
    ) else (
      if (M.1 47 2) < p0 then (
        (0 : Int32)
      ) else (
        if ((M.1 47 2) - p0) < p1 then (
          (0 : Int32)
        ) else (
          (1 : Int32)
        )
      )
    )
  )
theorem z_X2_has_47 (M : nb_M) (p0 : Int32) (p1 : Int32) : f_X2_has_47 M p0 p1 = 0 ∨ f_X2_has_47 M p0 p1 = 1 := by
  unfold f_X2_has_47
  repeat (first | (left; rfl) | (right; rfl) | split)
def f_X2_has_49 (M : nb_M) (p0 : Int32) (p1 : Int32) : Int32 :=
  if p0 < 0 then (
    (0 : Int32)
  ) else (
    if p1 < 0 then (
      (0 : Int32)
    ) else (
      if (M.1 49 2) < p0 then (
        (0 : Int32)
      ) else (
        if ((M.1 49 2) - p0) < p1 then (
          (0 : Int32)
        ) else (
          (1 : Int32)
        )
      )
    )
  )
theorem z_X2_has_49 (M : nb_M) (p0 : Int32) (p1 : Int32) : f_X2_has_49 M p0 p1 = 0 ∨ f_X2_has_49 M p0 p1 = 1 := by
  unfold f_X2_has_49
  repeat (first | (left; rfl) | (right; rfl) | split)
def f_X6_move (M : nb_M) (p0 : Int32) (p1 : Int32) (p2 : Int32) (p3 : Int32) (p4 : Int32) : Option (Int32 × nb_M) :=
  if (f_X6_isSheet p0) = 0 then (
    nb_p (f_X6_fail M (1 : Int32)) fun r_3 M_3 =>
    some (r_3, M_3)
  ) else (
    if (f_X6_isSheet p2) = 0 then (
      nb_p (f_X6_fail M (1 : Int32)) fun r_262 M_262 =>
      some (r_262, M_262)
    ) else (
      if p0 = 0 then (
        if p2 = 0 then (
          if (f_X2_isMissing_43 M) = 0 then (
            if (M.1 43 1) = (M.1 43 1) then (
              if (f_X2_has_43 M p1 p4) = 0 then (
                nb_p (f_X6_fail M (1 : Int32)) fun r_16 M_16 =>
                some (r_16, M_16)
              ) else (
                if (f_X2_has_43 M p3 p4) = 0 then (
                  nb_p (f_X6_fail M (1 : Int32)) fun r_20 M_20 =>
                  some (r_20, M_20)
                ) else (
                  if p1 < 0 ∨ p3 < 0 ∨ p4 < 0 ∨ 24 < p1.toNatClampNeg + p4.toNatClampNeg ∨ 24 < p3.toNatClampNeg + p4.toNatClampNeg then none else
                  nb_n (nb_r M 44 (va_cpy (M.1 44) (M.1 44) p1.toNatClampNeg p3.toNatClampNeg p4.toNatClampNeg)) fun M_19 =>
                  some (p4, M_19)
                )
              )
            ) else (
              nb_p (f_X6_fail M (5 : Int32)) fun r_21 M_21 =>
              some (r_21, M_21)
            )
          ) else (
            nb_p (f_X6_fail M (2 : Int32)) fun r_10 M_10 =>
            some (r_10, M_10)
          )
        ) else (
          if p2 = 1 then (
            if (f_X2_isMissing_43 M) = 0 then (
              if (f_X2_isMissing_45 M) = 0 then (
                if (M.1 43 1) = (M.1 45 1) then (
                  if (f_X2_has_43 M p1 p4) = 0 then (
                    nb_p (f_X6_fail M (1 : Int32)) fun r_31 M_31 =>
                    some (r_31, M_31)
                  ) else (
                    if (f_X2_has_45 M p3 p4) = 0 then (
                      nb_p (f_X6_fail M (1 : Int32)) fun r_35 M_35 =>
                      some (r_35, M_35)
                    ) else (
                      if p1 < 0 ∨ p3 < 0 ∨ p4 < 0 ∨ 24 < p1.toNatClampNeg + p4.toNatClampNeg ∨ 24 < p3.toNatClampNeg + p4.toNatClampNeg then none else
                      nb_n (nb_r M 46 (va_cpy (M.1 44) (M.1 46) p1.toNatClampNeg p3.toNatClampNeg p4.toNatClampNeg)) fun M_34 =>
                      some (p4, M_34)
                    )
                  )
                ) else (
                  nb_p (f_X6_fail M (5 : Int32)) fun r_36 M_36 =>
                  some (r_36, M_36)
                )
              ) else (
                nb_p (f_X6_fail M (2 : Int32)) fun r_37 M_37 =>
                some (r_37, M_37)
              )
            ) else (
              nb_p (f_X6_fail M (2 : Int32)) fun r_25 M_25 =>
              some (r_25, M_25)
            )
          ) else (
            if p2 = 2 then (
              if (f_X2_isMissing_43 M) = 0 then (
                if (f_X2_isMissing_47 M) = 0 then (
                  if (M.1 43 1) = (M.1 47 1) then (
                    if (f_X2_has_43 M p1 p4) = 0 then (
                      nb_p (f_X6_fail M (1 : Int32)) fun r_47 M_47 =>
                      some (r_47, M_47)
                    ) else (
                      if (f_X2_has_47 M p3 p4) = 0 then (
                        nb_p (f_X6_fail M (1 : Int32)) fun r_51 M_51 =>
                        some (r_51, M_51)
                      ) else (
                        if p1 < 0 ∨ p3 < 0 ∨ p4 < 0 ∨ 24 < p1.toNatClampNeg + p4.toNatClampNeg ∨ 24 < p3.toNatClampNeg + p4.toNatClampNeg then none else
                        nb_n (nb_r M 48 (va_cpy (M.1 44) (M.1 48) p1.toNatClampNeg p3.toNatClampNeg p4.toNatClampNeg)) fun M_50 =>
                        some (p4, M_50)
                      )
                    )
                  ) else (
                    nb_p (f_X6_fail M (5 : Int32)) fun r_52 M_52 =>
                    some (r_52, M_52)
                  )
                ) else (
                  nb_p (f_X6_fail M (2 : Int32)) fun r_53 M_53 =>
                  some (r_53, M_53)
                )
              ) else (
                nb_p (f_X6_fail M (2 : Int32)) fun r_41 M_41 =>
                some (r_41, M_41)
              )
            ) else (
              if p2 = 3 then (
                if (f_X2_isMissing_43 M) = 0 then (
                  if (f_X2_isMissing_49 M) = 0 then (
                    if (M.1 43 1) = (M.1 49 1) then (
                      if (f_X2_has_43 M p1 p4) = 0 then (
                        nb_p (f_X6_fail M (1 : Int32)) fun r_63 M_63 =>
                        some (r_63, M_63)
                      ) else (
                        if (f_X2_has_49 M p3 p4) = 0 then (
                          nb_p (f_X6_fail M (1 : Int32)) fun r_67 M_67 =>
                          some (r_67, M_67)
                        ) else (
                          if p1 < 0 ∨ p3 < 0 ∨ p4 < 0 ∨ 24 < p1.toNatClampNeg + p4.toNatClampNeg ∨ 24 < p3.toNatClampNeg + p4.toNatClampNeg then none else
                          nb_n (nb_r M 50 (va_cpy (M.1 44) (M.1 50) p1.toNatClampNeg p3.toNatClampNeg p4.toNatClampNeg)) fun M_66 =>
                          some (p4, M_66)
                        )
                      )
                    ) else (
                      nb_p (f_X6_fail M (5 : Int32)) fun r_68 M_68 =>
                      some (r_68, M_68)
                    )
                  ) else (
                    nb_p (f_X6_fail M (2 : Int32)) fun r_69 M_69 =>
                    some (r_69, M_69)
                  )
                ) else (
                  nb_p (f_X6_fail M (2 : Int32)) fun r_57 M_57 =>
                  some (r_57, M_57)
                )
              ) else (
                none
              )
            )
          )
        )
      ) else (
        if p0 = 1 then (
          if p2 = 0 then (
            if (f_X2_isMissing_45 M) = 0 then (
              if (f_X2_isMissing_43 M) = 0 then (
                if (M.1 45 1) = (M.1 43 1) then (
                  if (f_X2_has_45 M p1 p4) = 0 then (
                    nb_p (f_X6_fail M (1 : Int32)) fun r_80 M_80 =>
                    some (r_80, M_80)
                  ) else (
                    if (f_X2_has_43 M p3 p4) = 0 then (
                      nb_p (f_X6_fail M (1 : Int32)) fun r_84 M_84 =>
                      some (r_84, M_84)
                    ) else (
                      if p1 < 0 ∨ p3 < 0 ∨ p4 < 0 ∨ 24 < p1.toNatClampNeg + p4.toNatClampNeg ∨ 24 < p3.toNatClampNeg + p4.toNatClampNeg then none else
                      nb_n (nb_r M 44 (va_cpy (M.1 46) (M.1 44) p1.toNatClampNeg p3.toNatClampNeg p4.toNatClampNeg)) fun M_83 =>
                      some (p4, M_83)
                    )
                  )
                ) else (
                  nb_p (f_X6_fail M (5 : Int32)) fun r_85 M_85 =>
                  some (r_85, M_85)
                )
              ) else (
                nb_p (f_X6_fail M (2 : Int32)) fun r_86 M_86 =>
                some (r_86, M_86)
              )
            ) else (
              nb_p (f_X6_fail M (2 : Int32)) fun r_74 M_74 =>
              some (r_74, M_74)
            )
          ) else (
            if p2 = 1 then (
              if (f_X2_isMissing_45 M) = 0 then (
                if (M.1 45 1) = (M.1 45 1) then (
                  if (f_X2_has_45 M p1 p4) = 0 then (
                    nb_p (f_X6_fail M (1 : Int32)) fun r_96 M_96 =>
                    some (r_96, M_96)
                  ) else (
                    if (f_X2_has_45 M p3 p4) = 0 then (
                      nb_p (f_X6_fail M (1 : Int32)) fun r_100 M_100 =>
                      some (r_100, M_100)
                    ) else (
                      if p1 < 0 ∨ p3 < 0 ∨ p4 < 0 ∨ 24 < p1.toNatClampNeg + p4.toNatClampNeg ∨ 24 < p3.toNatClampNeg + p4.toNatClampNeg then none else
                      nb_n (nb_r M 46 (va_cpy (M.1 46) (M.1 46) p1.toNatClampNeg p3.toNatClampNeg p4.toNatClampNeg)) fun M_99 =>
                      some (p4, M_99)
                    )
                  )
                ) else (
                  nb_p (f_X6_fail M (5 : Int32)) fun r_101 M_101 =>
                  some (r_101, M_101)
                )
              ) else (
                nb_p (f_X6_fail M (2 : Int32)) fun r_90 M_90 =>
                some (r_90, M_90)
              )
            ) else (
              if p2 = 2 then (
                if (f_X2_isMissing_45 M) = 0 then (
                  if (f_X2_isMissing_47 M) = 0 then (
                    if (M.1 45 1) = (M.1 47 1) then (
                      if (f_X2_has_45 M p1 p4) = 0 then (
                        nb_p (f_X6_fail M (1 : Int32)) fun r_111 M_111 =>
                        some (r_111, M_111)
                      ) else (
                        if (f_X2_has_47 M p3 p4) = 0 then (
                          nb_p (f_X6_fail M (1 : Int32)) fun r_115 M_115 =>
                          some (r_115, M_115)
                        ) else (
                          if p1 < 0 ∨ p3 < 0 ∨ p4 < 0 ∨ 24 < p1.toNatClampNeg + p4.toNatClampNeg ∨ 24 < p3.toNatClampNeg + p4.toNatClampNeg then none else
                          nb_n (nb_r M 48 (va_cpy (M.1 46) (M.1 48) p1.toNatClampNeg p3.toNatClampNeg p4.toNatClampNeg)) fun M_114 =>
                          some (p4, M_114)
                        )
                      )
                    ) else (
                      nb_p (f_X6_fail M (5 : Int32)) fun r_116 M_116 =>
                      some (r_116, M_116)
                    )
                  ) else (
                    nb_p (f_X6_fail M (2 : Int32)) fun r_117 M_117 =>
                    some (r_117, M_117)
                  )
                ) else (
                  nb_p (f_X6_fail M (2 : Int32)) fun r_105 M_105 =>
                  some (r_105, M_105)
                )
              ) else (
                if p2 = 3 then (
                  if (f_X2_isMissing_45 M) = 0 then (
                    if (f_X2_isMissing_49 M) = 0 then (
                      if (M.1 45 1) = (M.1 49 1) then (
                        if (f_X2_has_45 M p1 p4) = 0 then (
                          nb_p (f_X6_fail M (1 : Int32)) fun r_127 M_127 =>
                          some (r_127, M_127)
                        ) else (
                          if (f_X2_has_49 M p3 p4) = 0 then (
                            nb_p (f_X6_fail M (1 : Int32)) fun r_131 M_131 =>
                            some (r_131, M_131)
                          ) else (
                            if p1 < 0 ∨ p3 < 0 ∨ p4 < 0 ∨ 24 < p1.toNatClampNeg + p4.toNatClampNeg ∨ 24 < p3.toNatClampNeg + p4.toNatClampNeg then none else
                            nb_n (nb_r M 50 (va_cpy (M.1 46) (M.1 50) p1.toNatClampNeg p3.toNatClampNeg p4.toNatClampNeg)) fun M_130 =>
                            some (p4, M_130)
                          )
                        )
                      ) else (
                        nb_p (f_X6_fail M (5 : Int32)) fun r_132 M_132 =>
                        some (r_132, M_132)
                      )
                    ) else (
                      nb_p (f_X6_fail M (2 : Int32)) fun r_133 M_133 =>
                      some (r_133, M_133)
                    )
                  ) else (
                    nb_p (f_X6_fail M (2 : Int32)) fun r_121 M_121 =>
                    some (r_121, M_121)
                  )
                ) else (
                  none
                )
              )
            )
          )
        ) else (
          if p0 = 2 then (
            if p2 = 0 then (
              if (f_X2_isMissing_47 M) = 0 then (
                if (f_X2_isMissing_43 M) = 0 then (
                  if (M.1 47 1) = (M.1 43 1) then (
                    if (f_X2_has_47 M p1 p4) = 0 then (
                      nb_p (f_X6_fail M (1 : Int32)) fun r_144 M_144 =>
                      some (r_144, M_144)
                    ) else (
                      if (f_X2_has_43 M p3 p4) = 0 then (
                        nb_p (f_X6_fail M (1 : Int32)) fun r_148 M_148 =>
                        some (r_148, M_148)
                      ) else (
                        if p1 < 0 ∨ p3 < 0 ∨ p4 < 0 ∨ 24 < p1.toNatClampNeg + p4.toNatClampNeg ∨ 24 < p3.toNatClampNeg + p4.toNatClampNeg then none else
                        nb_n (nb_r M 44 (va_cpy (M.1 48) (M.1 44) p1.toNatClampNeg p3.toNatClampNeg p4.toNatClampNeg)) fun M_147 =>
                        some (p4, M_147)
                      )
                    )
                  ) else (
                    nb_p (f_X6_fail M (5 : Int32)) fun r_149 M_149 =>
                    some (r_149, M_149)
                  )
                ) else (
                  nb_p (f_X6_fail M (2 : Int32)) fun r_150 M_150 =>
                  some (r_150, M_150)
                )
              ) else (
                nb_p (f_X6_fail M (2 : Int32)) fun r_138 M_138 =>
                some (r_138, M_138)
              )
            ) else (
              if p2 = 1 then (
                if (f_X2_isMissing_47 M) = 0 then (
                  if (f_X2_isMissing_45 M) = 0 then (
                    if (M.1 47 1) = (M.1 45 1) then (
                      if (f_X2_has_47 M p1 p4) = 0 then (
                        nb_p (f_X6_fail M (1 : Int32)) fun r_160 M_160 =>
                        some (r_160, M_160)
                      ) else (
                        if (f_X2_has_45 M p3 p4) = 0 then (
                          nb_p (f_X6_fail M (1 : Int32)) fun r_164 M_164 =>
                          some (r_164, M_164)
                        ) else (
                          if p1 < 0 ∨ p3 < 0 ∨ p4 < 0 ∨ 24 < p1.toNatClampNeg + p4.toNatClampNeg ∨ 24 < p3.toNatClampNeg + p4.toNatClampNeg then none else
                          nb_n (nb_r M 46 (va_cpy (M.1 48) (M.1 46) p1.toNatClampNeg p3.toNatClampNeg p4.toNatClampNeg)) fun M_163 =>
                          some (p4, M_163)
                        )
                      )
                    ) else (
                      nb_p (f_X6_fail M (5 : Int32)) fun r_165 M_165 =>
                      some (r_165, M_165)
                    )
                  ) else (
                    nb_p (f_X6_fail M (2 : Int32)) fun r_166 M_166 =>
                    some (r_166, M_166)
                  )
                ) else (
                  nb_p (f_X6_fail M (2 : Int32)) fun r_154 M_154 =>
                  some (r_154, M_154)
                )
              ) else (
                if p2 = 2 then (
                  if (f_X2_isMissing_47 M) = 0 then (
                    if (M.1 47 1) = (M.1 47 1) then (
                      if (f_X2_has_47 M p1 p4) = 0 then (
                        nb_p (f_X6_fail M (1 : Int32)) fun r_176 M_176 =>
                        some (r_176, M_176)
                      ) else (
                        if (f_X2_has_47 M p3 p4) = 0 then (
                          nb_p (f_X6_fail M (1 : Int32)) fun r_180 M_180 =>
                          some (r_180, M_180)
                        ) else (
                          if p1 < 0 ∨ p3 < 0 ∨ p4 < 0 ∨ 24 < p1.toNatClampNeg + p4.toNatClampNeg ∨ 24 < p3.toNatClampNeg + p4.toNatClampNeg then none else
                          nb_n (nb_r M 48 (va_cpy (M.1 48) (M.1 48) p1.toNatClampNeg p3.toNatClampNeg p4.toNatClampNeg)) fun M_179 =>
                          some (p4, M_179)
                        )
                      )
                    ) else (
                      nb_p (f_X6_fail M (5 : Int32)) fun r_181 M_181 =>
                      some (r_181, M_181)
                    )
                  ) else (
                    nb_p (f_X6_fail M (2 : Int32)) fun r_170 M_170 =>
                    some (r_170, M_170)
                  )
                ) else (
                  if p2 = 3 then (
                    if (f_X2_isMissing_47 M) = 0 then (
                      if (f_X2_isMissing_49 M) = 0 then (
                        if (M.1 47 1) = (M.1 49 1) then (
                          if (f_X2_has_47 M p1 p4) = 0 then (
                            nb_p (f_X6_fail M (1 : Int32)) fun r_191 M_191 =>
                            some (r_191, M_191)
                          ) else (
                            if (f_X2_has_49 M p3 p4) = 0 then (
                              nb_p (f_X6_fail M (1 : Int32)) fun r_195 M_195 =>
                              some (r_195, M_195)
                            ) else (
                              if p1 < 0 ∨ p3 < 0 ∨ p4 < 0 ∨ 24 < p1.toNatClampNeg + p4.toNatClampNeg ∨ 24 < p3.toNatClampNeg + p4.toNatClampNeg then none else
                              nb_n (nb_r M 50 (va_cpy (M.1 48) (M.1 50) p1.toNatClampNeg p3.toNatClampNeg p4.toNatClampNeg)) fun M_194 =>
                              some (p4, M_194)
                            )
                          )
                        ) else (
                          nb_p (f_X6_fail M (5 : Int32)) fun r_196 M_196 =>
                          some (r_196, M_196)
                        )
                      ) else (
                        nb_p (f_X6_fail M (2 : Int32)) fun r_197 M_197 =>
                        some (r_197, M_197)
                      )
                    ) else (
                      nb_p (f_X6_fail M (2 : Int32)) fun r_185 M_185 =>
                      some (r_185, M_185)
                    )
                  ) else (
                    none
                  )
                )
              )
            )
          ) else (
            if p0 = 3 then (
              if p2 = 0 then (
                if (f_X2_isMissing_49 M) = 0 then (
                  if (f_X2_isMissing_43 M) = 0 then (
                    if (M.1 49 1) = (M.1 43 1) then (
                      if (f_X2_has_49 M p1 p4) = 0 then (
                        nb_p (f_X6_fail M (1 : Int32)) fun r_208 M_208 =>
                        some (r_208, M_208)
                      ) else (
                        if (f_X2_has_43 M p3 p4) = 0 then (
                          nb_p (f_X6_fail M (1 : Int32)) fun r_212 M_212 =>
                          some (r_212, M_212)
                        ) else (
                          if p1 < 0 ∨ p3 < 0 ∨ p4 < 0 ∨ 24 < p1.toNatClampNeg + p4.toNatClampNeg ∨ 24 < p3.toNatClampNeg + p4.toNatClampNeg then none else
                          nb_n (nb_r M 44 (va_cpy (M.1 50) (M.1 44) p1.toNatClampNeg p3.toNatClampNeg p4.toNatClampNeg)) fun M_211 =>
                          some (p4, M_211)
                        )
                      )
                    ) else (
                      nb_p (f_X6_fail M (5 : Int32)) fun r_213 M_213 =>
                      some (r_213, M_213)
                    )
                  ) else (
                    nb_p (f_X6_fail M (2 : Int32)) fun r_214 M_214 =>
                    some (r_214, M_214)
                  )
                ) else (
                  nb_p (f_X6_fail M (2 : Int32)) fun r_202 M_202 =>
                  some (r_202, M_202)
                )
              ) else (
                if p2 = 1 then (
                  if (f_X2_isMissing_49 M) = 0 then (
                    if (f_X2_isMissing_45 M) = 0 then (
                      if (M.1 49 1) = (M.1 45 1) then (
                        if (f_X2_has_49 M p1 p4) = 0 then (
                          nb_p (f_X6_fail M (1 : Int32)) fun r_224 M_224 =>
                          some (r_224, M_224)
                        ) else (
                          if (f_X2_has_45 M p3 p4) = 0 then (
                            nb_p (f_X6_fail M (1 : Int32)) fun r_228 M_228 =>
                            some (r_228, M_228)
                          ) else (
                            if p1 < 0 ∨ p3 < 0 ∨ p4 < 0 ∨ 24 < p1.toNatClampNeg + p4.toNatClampNeg ∨ 24 < p3.toNatClampNeg + p4.toNatClampNeg then none else
                            nb_n (nb_r M 46 (va_cpy (M.1 50) (M.1 46) p1.toNatClampNeg p3.toNatClampNeg p4.toNatClampNeg)) fun M_227 =>
                            some (p4, M_227)
                          )
                        )
                      ) else (
                        nb_p (f_X6_fail M (5 : Int32)) fun r_229 M_229 =>
                        some (r_229, M_229)
                      )
                    ) else (
                      nb_p (f_X6_fail M (2 : Int32)) fun r_230 M_230 =>
                      some (r_230, M_230)
                    )
                  ) else (
                    nb_p (f_X6_fail M (2 : Int32)) fun r_218 M_218 =>
                    some (r_218, M_218)
                  )
                ) else (
                  if p2 = 2 then (
                    if (f_X2_isMissing_49 M) = 0 then (
                      if (f_X2_isMissing_47 M) = 0 then (
                        if (M.1 49 1) = (M.1 47 1) then (
                          if (f_X2_has_49 M p1 p4) = 0 then (
                            nb_p (f_X6_fail M (1 : Int32)) fun r_240 M_240 =>
                            some (r_240, M_240)
                          ) else (
                            if (f_X2_has_47 M p3 p4) = 0 then (
                              nb_p (f_X6_fail M (1 : Int32)) fun r_244 M_244 =>
                              some (r_244, M_244)
                            ) else (
                              if p1 < 0 ∨ p3 < 0 ∨ p4 < 0 ∨ 24 < p1.toNatClampNeg + p4.toNatClampNeg ∨ 24 < p3.toNatClampNeg + p4.toNatClampNeg then none else
                              nb_n (nb_r M 48 (va_cpy (M.1 50) (M.1 48) p1.toNatClampNeg p3.toNatClampNeg p4.toNatClampNeg)) fun M_243 =>
                              some (p4, M_243)
                            )
                          )
                        ) else (
                          nb_p (f_X6_fail M (5 : Int32)) fun r_245 M_245 =>
                          some (r_245, M_245)
                        )
                      ) else (
                        nb_p (f_X6_fail M (2 : Int32)) fun r_246 M_246 =>
                        some (r_246, M_246)
                      )
                    ) else (
                      nb_p (f_X6_fail M (2 : Int32)) fun r_234 M_234 =>
                      some (r_234, M_234)
                    )
                  ) else (
                    if p2 = 3 then (
                      if (f_X2_isMissing_49 M) = 0 then (
                        if (M.1 49 1) = (M.1 49 1) then (
                          if (f_X2_has_49 M p1 p4) = 0 then (
                            nb_p (f_X6_fail M (1 : Int32)) fun r_256 M_256 =>
                            some (r_256, M_256)
                          ) else (
                            if (f_X2_has_49 M p3 p4) = 0 then (
                              nb_p (f_X6_fail M (1 : Int32)) fun r_260 M_260 =>
                              some (r_260, M_260)
                            ) else (
                              if p1 < 0 ∨ p3 < 0 ∨ p4 < 0 ∨ 24 < p1.toNatClampNeg + p4.toNatClampNeg ∨ 24 < p3.toNatClampNeg + p4.toNatClampNeg then none else
                              nb_n (nb_r M 50 (va_cpy (M.1 50) (M.1 50) p1.toNatClampNeg p3.toNatClampNeg p4.toNatClampNeg)) fun M_259 =>
                              some (p4, M_259)
                            )
                          )
                        ) else (
                          nb_p (f_X6_fail M (5 : Int32)) fun r_261 M_261 =>
                          some (r_261, M_261)
                        )
                      ) else (
                        nb_p (f_X6_fail M (2 : Int32)) fun r_250 M_250 =>
                        some (r_250, M_250)
                      )
                    ) else (
                      none
                    )
                  )
                )
              )
            ) else (
              none
            )
          )
        )
      )
    )
  )
def f_X0_takeCares_1_43_2 : Nat → nb_M → Int32 → Option (Int32 × nb_M)
  | 0, _, _ => none
  | n + 1, M, x2 =>
    if (M.1 43 2) ≤ x2 then (
      some (x2, M)
    ) else (
      if (M.1 1 2) ≤ x2 then (
        some (x2, M)
      ) else (
        if x2 < 0 ∨ 24 ≤ x2.toNatClampNeg then none else
        if (f_X6_within (M.1 44 x2.toNatClampNeg) (9 : Int32)) = 0 then (
          some (x2, M)
        ) else (
          if x2 < 0 ∨ 5 ≤ x2.toNatClampNeg then none else
          nb_n (nb_i M 2 x2.toNatClampNeg (M.1 44 x2.toNatClampNeg)) fun M_7 =>
          f_X0_takeCares_1_43_2 n M_7 (x2 + 1)
        )
      )
    )
def f_X0_takeCares_1_43 (M : nb_M) : Option (Int32 × nb_M) :=
  f_X0_takeCares_1_43_2 nb_F M (0 : Int32)
def f_X0_takeCares_1_45_2 : Nat → nb_M → Int32 → Option (Int32 × nb_M)
  | 0, _, _ => none
  | n + 1, M, x2 =>
    if (M.1 45 2) ≤ x2 then (
      some (x2, M)
    ) else (
      if (M.1 1 2) ≤ x2 then (
        some (x2, M)
      ) else (
        if x2 < 0 ∨ 24 ≤ x2.toNatClampNeg then none else
        if (f_X6_within (M.1 46 x2.toNatClampNeg) (9 : Int32)) = 0 then (
          some (x2, M)
        ) else (
          if x2 < 0 ∨ 5 ≤ x2.toNatClampNeg then none else
          nb_n (nb_i M 2 x2.toNatClampNeg (M.1 46 x2.toNatClampNeg)) fun M_7 =>
          f_X0_takeCares_1_45_2 n M_7 (x2 + 1)
        )
      )
    )
def f_X0_takeCares_1_45 (M : nb_M) : Option (Int32 × nb_M) :=
  f_X0_takeCares_1_45_2 nb_F M (0 : Int32)
def f_X0_takeCares_1_47_2 : Nat → nb_M → Int32 → Option (Int32 × nb_M)
  | 0, _, _ => none
  | n + 1, M, x2 =>
    if (M.1 47 2) ≤ x2 then (
      some (x2, M)
    ) else (
      if (M.1 1 2) ≤ x2 then (
        some (x2, M)
      ) else (
        if x2 < 0 ∨ 24 ≤ x2.toNatClampNeg then none else
        if (f_X6_within (M.1 48 x2.toNatClampNeg) (9 : Int32)) = 0 then (
          some (x2, M)
        ) else (
          if x2 < 0 ∨ 5 ≤ x2.toNatClampNeg then none else
          nb_n (nb_i M 2 x2.toNatClampNeg (M.1 48 x2.toNatClampNeg)) fun M_7 =>
          f_X0_takeCares_1_47_2 n M_7 (x2 + 1)
        )
      )
    )
def f_X0_takeCares_1_47 (M : nb_M) : Option (Int32 × nb_M) :=
  f_X0_takeCares_1_47_2 nb_F M (0 : Int32)
def f_X0_takeCares_1_49_2 : Nat → nb_M → Int32 → Option (Int32 × nb_M)
  | 0, _, _ => none
  | n + 1, M, x2 =>
    if (M.1 49 2) ≤ x2 then (
      some (x2, M)
    ) else (
      if (M.1 1 2) ≤ x2 then (
        some (x2, M)
      ) else (
        if x2 < 0 ∨ 24 ≤ x2.toNatClampNeg then none else
        if (f_X6_within (M.1 50 x2.toNatClampNeg) (9 : Int32)) = 0 then (
          some (x2, M)
        ) else (
          if x2 < 0 ∨ 5 ≤ x2.toNatClampNeg then none else
          nb_n (nb_i M 2 x2.toNatClampNeg (M.1 50 x2.toNatClampNeg)) fun M_7 =>
          f_X0_takeCares_1_49_2 n M_7 (x2 + 1)
        )
      )
    )
def f_X0_takeCares_1_49 (M : nb_M) : Option (Int32 × nb_M) :=
  f_X0_takeCares_1_49_2 nb_F M (0 : Int32)
def f_X6_cares (M : nb_M) (p0 : Int32) : Option (Int32 × nb_M) :=
  if (f_X6_isSheet p0) = 0 then (
    nb_p (f_X6_fail M (1 : Int32)) fun r_23 M_23 =>
    some (r_23, M_23)
  ) else (
    if p0 = 0 then (
      if (f_X2_isMissing_43 M) = 0 then (
        nb_p (f_X0_takeCares_1_43 M) fun r_6 M_6 =>
        some (r_6, M_6)
      ) else (
        nb_p (f_X6_fail M (2 : Int32)) fun r_7 M_7 =>
        some (r_7, M_7)
      )
    ) else (
      if p0 = 1 then (
        if (f_X2_isMissing_45 M) = 0 then (
          nb_p (f_X0_takeCares_1_45 M) fun r_11 M_11 =>
          some (r_11, M_11)
        ) else (
          nb_p (f_X6_fail M (2 : Int32)) fun r_12 M_12 =>
          some (r_12, M_12)
        )
      ) else (
        if p0 = 2 then (
          if (f_X2_isMissing_47 M) = 0 then (
            nb_p (f_X0_takeCares_1_47 M) fun r_16 M_16 =>
            some (r_16, M_16)
          ) else (
            nb_p (f_X6_fail M (2 : Int32)) fun r_17 M_17 =>
            some (r_17, M_17)
          )
        ) else (
          if p0 = 3 then (
            if (f_X2_isMissing_49 M) = 0 then (
              nb_p (f_X0_takeCares_1_49 M) fun r_21 M_21 =>
              some (r_21, M_21)
            ) else (
              nb_p (f_X6_fail M (2 : Int32)) fun r_22 M_22 =>
              some (r_22, M_22)
            )
          ) else (
            none
          )
        )
      )
    )
  )
def f_X0_rightStates_1_43_2 : Nat → nb_M → Int32 → Option Int32
  | 0, _, _ => none
  | n + 1, M, x2 =>
    if (M.1 43 2) ≤ x2 then (
      some x2
    ) else (
      if (M.1 1 6) ≤ x2 then (
        some x2
      ) else (
        if x2 < 0 ∨ 24 ≤ x2.toNatClampNeg then none else
        if x2 < 0 ∨ 9 ≤ x2.toNatClampNeg then none else
        if (M.1 44 x2.toNatClampNeg) = (M.1 8 x2.toNatClampNeg) then (
          f_X0_rightStates_1_43_2 n M (x2 + 1)
        ) else (
          some x2
        )
      )
    )
def f_X0_rightStates_1_43 (M : nb_M) : Option Int32 :=
  f_X0_rightStates_1_43_2 nb_F M (0 : Int32)
def f_X0_rightStates_1_45_2 : Nat → nb_M → Int32 → Option Int32
  | 0, _, _ => none
  | n + 1, M, x2 =>
    if (M.1 45 2) ≤ x2 then (
      some x2
    ) else (
      if (M.1 1 6) ≤ x2 then (
        some x2
      ) else (
        if x2 < 0 ∨ 24 ≤ x2.toNatClampNeg then none else
        if x2 < 0 ∨ 9 ≤ x2.toNatClampNeg then none else
        if (M.1 46 x2.toNatClampNeg) = (M.1 8 x2.toNatClampNeg) then (
          f_X0_rightStates_1_45_2 n M (x2 + 1)
        ) else (
          some x2
        )
      )
    )
def f_X0_rightStates_1_45 (M : nb_M) : Option Int32 :=
  f_X0_rightStates_1_45_2 nb_F M (0 : Int32)
def f_X0_rightStates_1_47_2 : Nat → nb_M → Int32 → Option Int32
  | 0, _, _ => none
  | n + 1, M, x2 =>
    if (M.1 47 2) ≤ x2 then (
      some x2
    ) else (
      if (M.1 1 6) ≤ x2 then (
        some x2
      ) else (
        if x2 < 0 ∨ 24 ≤ x2.toNatClampNeg then none else
        if x2 < 0 ∨ 9 ≤ x2.toNatClampNeg then none else
        if (M.1 48 x2.toNatClampNeg) = (M.1 8 x2.toNatClampNeg) then (
          f_X0_rightStates_1_47_2 n M (x2 + 1)
        ) else (
          some x2
        )
      )
    )
def f_X0_rightStates_1_47 (M : nb_M) : Option Int32 :=
  f_X0_rightStates_1_47_2 nb_F M (0 : Int32)
def f_X0_rightStates_1_49_2 : Nat → nb_M → Int32 → Option Int32
  | 0, _, _ => none
  | n + 1, M, x2 =>
    if (M.1 49 2) ≤ x2 then (
      some x2
    ) else (
      if (M.1 1 6) ≤ x2 then (
        some x2
      ) else (
        if x2 < 0 ∨ 24 ≤ x2.toNatClampNeg then none else
        if x2 < 0 ∨ 9 ≤ x2.toNatClampNeg then none else
        if (M.1 50 x2.toNatClampNeg) = (M.1 8 x2.toNatClampNeg) then (
          f_X0_rightStates_1_49_2 n M (x2 + 1)
        ) else (
          some x2
        )
      )
    )
def f_X0_rightStates_1_49 (M : nb_M) : Option Int32 :=
  f_X0_rightStates_1_49_2 nb_F M (0 : Int32)
def f_X6_judge (M : nb_M) (p0 : Int32) : Option (Int32 × nb_M) :=
  if (f_X6_isSheet p0) = 0 then (
    nb_p (f_X6_fail M (1 : Int32)) fun r_23 M_23 =>
    some (r_23, M_23)
  ) else (
    if p0 = 0 then (
      if (f_X2_isMissing_43 M) = 0 then (
        nb_o (f_X0_rightStates_1_43 M) fun r_6 =>
        some (r_6, M)
      ) else (
        nb_p (f_X6_fail M (2 : Int32)) fun r_7 M_7 =>
        some (r_7, M_7)
      )
    ) else (
      if p0 = 1 then (
        if (f_X2_isMissing_45 M) = 0 then (
          nb_o (f_X0_rightStates_1_45 M) fun r_11 =>
          some (r_11, M)
        ) else (
          nb_p (f_X6_fail M (2 : Int32)) fun r_12 M_12 =>
          some (r_12, M_12)
        )
      ) else (
        if p0 = 2 then (
          if (f_X2_isMissing_47 M) = 0 then (
            nb_o (f_X0_rightStates_1_47 M) fun r_16 =>
            some (r_16, M)
          ) else (
            nb_p (f_X6_fail M (2 : Int32)) fun r_17 M_17 =>
            some (r_17, M_17)
          )
        ) else (
          if p0 = 3 then (
            if (f_X2_isMissing_49 M) = 0 then (
              nb_o (f_X0_rightStates_1_49 M) fun r_21 =>
              some (r_21, M)
            ) else (
              nb_p (f_X6_fail M (2 : Int32)) fun r_22 M_22 =>
              some (r_22, M_22)
            )
          ) else (
            none
          )
        )
      )
    )
  )
def f_X3_hold_29_13 (M : nb_M) (p0 : Int32) : Option nb_M :=
  if (0 : Int32) < 0 ∨ (0 : Int32) < 0 ∨ p0 < 0 ∨ 60 < (0 : Int32).toNatClampNeg + p0.toNatClampNeg ∨ 60 < (0 : Int32).toNatClampNeg + p0.toNatClampNeg then none else
  nb_n (nb_r M 30 (va_cpy (M.1 13) (M.1 30) (0 : Int32).toNatClampNeg (0 : Int32).toNatClampNeg p0.toNatClampNeg)) fun M_1 =>
  nb_n (nb_i M_1 29 1 p0) fun M_2 =>
  some M_2
def f_X3_hold_32_16 (M : nb_M) (p0 : Int32) : Option nb_M :=
  if (0 : Int32) < 0 ∨ (0 : Int32) < 0 ∨ p0 < 0 ∨ 60 < (0 : Int32).toNatClampNeg + p0.toNatClampNeg ∨ 60 < (0 : Int32).toNatClampNeg + p0.toNatClampNeg then none else
  nb_n (nb_r M 33 (va_cpy (M.1 16) (M.1 33) (0 : Int32).toNatClampNeg (0 : Int32).toNatClampNeg p0.toNatClampNeg)) fun M_1 =>
  nb_n (nb_i M_1 32 1 p0) fun M_2 =>
  some M_2
def f_X0_copyFrom_18_1_182 : Nat → nb_M → Int32 → Option nb_M
  | 0, _, _ => none
  | n + 1, M, x2 =>
    if (2 : Int32) ≤ x2 then (
      some M
    ) else (
      if x2 = 0 then (
        nb_o (f_X3_hold_29_13 M (M.1 12 1)) fun M_18 =>
        f_X0_copyFrom_18_1_182 n M_18 (x2 + 1)
      ) else (
        if x2 = 1 then (
          nb_o (f_X3_hold_32_16 M (M.1 15 1)) fun M_20 =>
          f_X0_copyFrom_18_1_182 n M_20 (x2 + 1)
        ) else (
          none
        )
      )
    )
def f_X0_copyFrom_18_1 (M : nb_M) : Option nb_M :=
  nb_n (nb_i M 18 0 (M.1 1 0)) fun M_1 =>
  nb_n (nb_i M_1 18 1 (M_1.1 1 1)) fun M_2 =>
  nb_n (nb_i M_2 18 2 (M_2.1 1 2)) fun M_3 =>
  nb_n (nb_i M_3 18 6 (M_3.1 1 6)) fun M_4 =>
  nb_n (nb_i M_4 18 13 (M_4.1 1 13)) fun M_5 =>
  nb_n (nb_i M_5 18 15 (M_5.1 1 15)) fun M_6 =>
  nb_n (nb_r M_6 19 (va_cpy (M_6.1 2) (M_6.1 19) (0 : Int32).toNatClampNeg (0 : Int32).toNatClampNeg (5 : Int32).toNatClampNeg)) fun M_7 =>
  nb_n (nb_r M_7 20 (va_cpy (M_7.1 3) (M_7.1 20) (0 : Int32).toNatClampNeg (0 : Int32).toNatClampNeg (5 : Int32).toNatClampNeg)) fun M_8 =>
  nb_n (nb_r M_8 21 (va_cpy (M_8.1 4) (M_8.1 21) (0 : Int32).toNatClampNeg (0 : Int32).toNatClampNeg (5 : Int32).toNatClampNeg)) fun M_9 =>
  nb_n (nb_r M_9 22 (va_cpy (M_9.1 5) (M_9.1 22) (0 : Int32).toNatClampNeg (0 : Int32).toNatClampNeg (9 : Int32).toNatClampNeg)) fun M_10 =>
  nb_n (nb_r M_10 23 (va_cpy (M_10.1 6) (M_10.1 23) (0 : Int32).toNatClampNeg (0 : Int32).toNatClampNeg (9 : Int32).toNatClampNeg)) fun M_11 =>
  nb_n (nb_r M_11 24 (va_cpy (M_11.1 7) (M_11.1 24) (0 : Int32).toNatClampNeg (0 : Int32).toNatClampNeg (9 : Int32).toNatClampNeg)) fun M_12 =>
  nb_n (nb_r M_12 25 (va_cpy (M_12.1 8) (M_12.1 25) (0 : Int32).toNatClampNeg (0 : Int32).toNatClampNeg (9 : Int32).toNatClampNeg)) fun M_13 =>
  nb_n (nb_r M_13 27 (va_cpy (M_13.1 10) (M_13.1 27) (0 : Int32).toNatClampNeg (0 : Int32).toNatClampNeg (60 : Int32).toNatClampNeg)) fun M_14 =>
  nb_n (nb_r M_14 28 (va_cpy (M_14.1 11) (M_14.1 28) (0 : Int32).toNatClampNeg (0 : Int32).toNatClampNeg (24 : Int32).toNatClampNeg)) fun M_15 =>
  f_X0_copyFrom_18_1_182 nb_F M_15 (0 : Int32)
def f_X6_image (M : nb_M) : Option (Int32 × nb_M) :=
  nb_o (f_X0_copyFrom_18_1 M) fun M_1 =>
  nb_n (nb_i M_1 0 7 ((M_1.1 0 7) + (1 : Int32))) fun M_2 =>
  some (M_2.1 0 7, M_2)
def f_X3_hold_12_30 (M : nb_M) (p0 : Int32) : Option nb_M :=
  if (0 : Int32) < 0 ∨ (0 : Int32) < 0 ∨ p0 < 0 ∨ 60 < (0 : Int32).toNatClampNeg + p0.toNatClampNeg ∨ 60 < (0 : Int32).toNatClampNeg + p0.toNatClampNeg then none else
  nb_n (nb_r M 13 (va_cpy (M.1 30) (M.1 13) (0 : Int32).toNatClampNeg (0 : Int32).toNatClampNeg p0.toNatClampNeg)) fun M_1 =>
  nb_n (nb_i M_1 12 1 p0) fun M_2 =>
  some M_2
def f_X3_hold_15_33 (M : nb_M) (p0 : Int32) : Option nb_M :=
  if (0 : Int32) < 0 ∨ (0 : Int32) < 0 ∨ p0 < 0 ∨ 60 < (0 : Int32).toNatClampNeg + p0.toNatClampNeg ∨ 60 < (0 : Int32).toNatClampNeg + p0.toNatClampNeg then none else
  nb_n (nb_r M 16 (va_cpy (M.1 33) (M.1 16) (0 : Int32).toNatClampNeg (0 : Int32).toNatClampNeg p0.toNatClampNeg)) fun M_1 =>
  nb_n (nb_i M_1 15 1 p0) fun M_2 =>
  some M_2
def f_X0_copyFrom_1_18_182 : Nat → nb_M → Int32 → Option nb_M
  | 0, _, _ => none
  | n + 1, M, x2 =>
    if (2 : Int32) ≤ x2 then (
      some M
    ) else (
      if x2 = 0 then (
        nb_o (f_X3_hold_12_30 M (M.1 29 1)) fun M_18 =>
        f_X0_copyFrom_1_18_182 n M_18 (x2 + 1)
      ) else (
        if x2 = 1 then (
          nb_o (f_X3_hold_15_33 M (M.1 32 1)) fun M_20 =>
          f_X0_copyFrom_1_18_182 n M_20 (x2 + 1)
        ) else (
          none
        )
      )
    )
def f_X0_copyFrom_1_18 (M : nb_M) : Option nb_M :=
  nb_n (nb_i M 1 0 (M.1 18 0)) fun M_1 =>
  nb_n (nb_i M_1 1 1 (M_1.1 18 1)) fun M_2 =>
  nb_n (nb_i M_2 1 2 (M_2.1 18 2)) fun M_3 =>
  nb_n (nb_i M_3 1 6 (M_3.1 18 6)) fun M_4 =>
  nb_n (nb_i M_4 1 13 (M_4.1 18 13)) fun M_5 =>
  nb_n (nb_i M_5 1 15 (M_5.1 18 15)) fun M_6 =>
  nb_n (nb_r M_6 2 (va_cpy (M_6.1 19) (M_6.1 2) (0 : Int32).toNatClampNeg (0 : Int32).toNatClampNeg (5 : Int32).toNatClampNeg)) fun M_7 =>
  nb_n (nb_r M_7 3 (va_cpy (M_7.1 20) (M_7.1 3) (0 : Int32).toNatClampNeg (0 : Int32).toNatClampNeg (5 : Int32).toNatClampNeg)) fun M_8 =>
  nb_n (nb_r M_8 4 (va_cpy (M_8.1 21) (M_8.1 4) (0 : Int32).toNatClampNeg (0 : Int32).toNatClampNeg (5 : Int32).toNatClampNeg)) fun M_9 =>
  nb_n (nb_r M_9 5 (va_cpy (M_9.1 22) (M_9.1 5) (0 : Int32).toNatClampNeg (0 : Int32).toNatClampNeg (9 : Int32).toNatClampNeg)) fun M_10 =>
  nb_n (nb_r M_10 6 (va_cpy (M_10.1 23) (M_10.1 6) (0 : Int32).toNatClampNeg (0 : Int32).toNatClampNeg (9 : Int32).toNatClampNeg)) fun M_11 =>
  nb_n (nb_r M_11 7 (va_cpy (M_11.1 24) (M_11.1 7) (0 : Int32).toNatClampNeg (0 : Int32).toNatClampNeg (9 : Int32).toNatClampNeg)) fun M_12 =>
  nb_n (nb_r M_12 8 (va_cpy (M_12.1 25) (M_12.1 8) (0 : Int32).toNatClampNeg (0 : Int32).toNatClampNeg (9 : Int32).toNatClampNeg)) fun M_13 =>
  nb_n (nb_r M_13 10 (va_cpy (M_13.1 27) (M_13.1 10) (0 : Int32).toNatClampNeg (0 : Int32).toNatClampNeg (60 : Int32).toNatClampNeg)) fun M_14 =>
  nb_n (nb_r M_14 11 (va_cpy (M_14.1 28) (M_14.1 11) (0 : Int32).toNatClampNeg (0 : Int32).toNatClampNeg (24 : Int32).toNatClampNeg)) fun M_15 =>
  f_X0_copyFrom_1_18_182 nb_F M_15 (0 : Int32)
def f_X6_restore (M : nb_M) : Option (Int32 × nb_M) :=
  if (M.1 0 7) = 0 then (
    nb_p (f_X6_fail M (2 : Int32)) fun r_3 M_3 =>
    some (r_3, M_3)
  ) else (
    nb_o (f_X0_copyFrom_1_18 M) fun M_2 =>
    some (M_2.1 1 0, M_2)
  )
def f_X6_tell (M : nb_M) (p0 : Int32) : Option (Int32 × nb_M) :=
  if (M.1 1 15) < (24 : Int32) then (
    if M.1 1 15 < 0 ∨ 24 ≤ (M.1 1 15).toNatClampNeg then none else
    nb_n (nb_i M 11 (M.1 1 15).toNatClampNeg p0) fun M_3 =>
    nb_n (nb_i M_3 1 15 ((M_3.1 1 15) + (1 : Int32))) fun M_4 =>
    some (M_4.1 1 15, M_4)
  ) else (
    nb_p (f_X6_fail M (4 : Int32)) fun r_5 M_5 =>
    some (r_5, M_5)
  )
def f_X0_firstWrongHad_2 : Nat → nb_M → Int32 → Option Int32
  | 0, _, _ => none
  | n + 1, M, x1 =>
    if (M.1 1 15) ≤ x1 then (
      some (-1 : Int32)
    ) else (
      if (M.1 1 2) ≤ x1 then (
        some x1
      ) else (
        if x1 < 0 ∨ 24 ≤ x1.toNatClampNeg then none else
        if x1 < 0 ∨ 5 ≤ x1.toNatClampNeg then none else
        if (M.1 11 x1.toNatClampNeg) = (M.1 4 x1.toNatClampNeg) then (
          f_X0_firstWrongHad_2 n M (x1 + 1)
        ) else (
          some x1
        )
      )
    )
def f_X0_firstWrongHad (M : nb_M) : Option Int32 :=
  f_X0_firstWrongHad_2 nb_F M (0 : Int32)
def f_X6_check (M : nb_M) : Option (Int32 × nb_M) :=
  nb_o (f_X0_firstWrongHad M) fun r_1 =>
  nb_n (nb_i M 1 15 (0 : Int32)) fun M_2 =>
  some (r_1 + (1 : Int32), M_2)
def f_X6_count (M : nb_M) (p0 : Int32) : Option (Int32 × nb_M) :=
  if p0 = 0 then (
    some (M.1 1 6, M)
  ) else (
    if p0 = 1 then (
      some (M.1 1 2, M)
    ) else (
      if p0 = 2 then (
        some (M.1 1 0, M)
      ) else (
        if p0 = 3 then (
          nb_o (f_X0_shards M) fun r_5 =>
          some (r_5, M)
        ) else (
          if p0 = 4 then (
            some (M.1 1 13, M)
          ) else (
            if p0 = 5 then (
              some (M.1 1 15, M)
            ) else (
              if p0 = 6 then (
                some (M.1 40 1, M)
              ) else (
                if p0 = 7 then (
                  some (M.1 1 1, M)
                ) else (
                  nb_p (f_X6_fail M (1 : Int32)) fun r_10 M_10 =>
                  some (r_10, M_10)
                )
              )
            )
          )
        )
      )
    )
  )
def f_X6_told (M : nb_M) (p0 : Int32) : Option (Int32 × nb_M) :=
  if p0 < (1 : Int32) then (
    nb_p (f_X6_fail M (1 : Int32)) fun r_2 M_2 =>
    some (r_2, M_2)
  ) else (
    if p0 ≤ (6 : Int32) then (
      if p0 < 0 ∨ 7 ≤ p0.toNatClampNeg then none else
      some (M.1 51 p0.toNatClampNeg, M)
    ) else (
      nb_p (f_X6_fail M (1 : Int32)) fun r_5 M_5 =>
      some (r_5, M_5)
    )
  )
def f_X7_in (p0 : Int32) (p1 : Int32) (p2 : Int32) : Int32 :=
  if p0 < p1 then (
    (0 : Int32)
  ) else (
    if p2 < p0 then (
      (0 : Int32)
    ) else (
      (1 : Int32)
    )
  )
theorem z_X7_in (p0 : Int32) (p1 : Int32) (p2 : Int32) : f_X7_in p0 p1 p2 = 0 ∨ f_X7_in p0 p1 p2 = 1 := by
  unfold f_X7_in
  repeat (first | (left; rfl) | (right; rfl) | split)
def f_X7_error (M : nb_M) (p0 : Int32) : Option (Int32 × nb_M) :=
  if (-1000000000 : Int32) - p0 < 0 ∨ 7 ≤ ((-1000000000 : Int32) - p0).toNatClampNeg then none else
  nb_n (nb_i M 3 ((-1000000000 : Int32) - p0).toNatClampNeg ((M.1 3 ((-1000000000 : Int32) - p0).toNatClampNeg) + (1 : Int32))) fun M_2 =>
  some (p0, M_2)
def f_X7_person (M : nb_M) (p0 : Int32) (p1 : Int32) : Option (Int32 × nb_M) :=
  if (f_X7_in p0 (0 : Int32) (9 : Int32)) = 0 then (
    nb_p (f_X7_error M (-1000000001 : Int32)) fun r_3 M_3 =>
    some (r_3, M_3)
  ) else (
    if (f_X7_in p1 (0 : Int32) (9 : Int32)) = 0 then (
      nb_p (f_X7_error M (-1000000001 : Int32)) fun r_16 M_16 =>
      some (r_16, M_16)
    ) else (
      nb_n (M.1 1 (3 : Int32).toNatClampNeg) fun v_6 =>
      if v_6 = (5 : Int32) then (
        nb_p (f_X7_error M (-1000000004 : Int32)) fun r_15 M_15 =>
        some (r_15, M_15)
      ) else (
        nb_n (nb_i M 1 (3 : Int32).toNatClampNeg ((M.1 1 (3 : Int32).toNatClampNeg) + (1 : Int32))) fun M_8 =>
        if (6 : Int32) + ((3 : Int32) * v_6) < 0 ∨ 383 ≤ ((6 : Int32) + ((3 : Int32) * v_6)).toNatClampNeg then none else
        nb_n (nb_i M_8 1 ((6 : Int32) + ((3 : Int32) * v_6)).toNatClampNeg p0) fun M_10 =>
        if ((6 : Int32) + ((3 : Int32) * v_6)) + (1 : Int32) < 0 ∨ 383 ≤ (((6 : Int32) + ((3 : Int32) * v_6)) + (1 : Int32)).toNatClampNeg then none else
        nb_n (nb_i M_10 1 (((6 : Int32) + ((3 : Int32) * v_6)) + (1 : Int32)).toNatClampNeg p1) fun M_12 =>
        if ((6 : Int32) + ((3 : Int32) * v_6)) + (2 : Int32) < 0 ∨ 383 ≤ (((6 : Int32) + ((3 : Int32) * v_6)) + (2 : Int32)).toNatClampNeg then none else
        nb_n (nb_i M_12 1 (((6 : Int32) + ((3 : Int32) * v_6)) + (2 : Int32)).toNatClampNeg (0 : Int32)) fun M_14 =>
        some (v_6, M_14)
      )
    )
  )
def f_X7_isPerson (M : nb_M) (p0 : Int32) : Int32 :=
  f_X7_in p0 (0 : Int32) ((M.1 1 (3 : Int32).toNatClampNeg) - (1 : Int32))
theorem z_X7_isPerson (M : nb_M) (p0 : Int32) : f_X7_isPerson M p0 = 0 ∨ f_X7_isPerson M p0 = 1 := by
  unfold f_X7_isPerson
  exact z_X7_in p0 (0 : Int32) ((M.1 1 (3 : Int32).toNatClampNeg) - (1 : Int32))
def f_X7_about (M : nb_M) (p0 : Int32) (p1 : Int32) : Option Int32 :=
  if ((6 : Int32) + ((3 : Int32) * p0)) + p1 < 0 ∨ 383 ≤ (((6 : Int32) + ((3 : Int32) * p0)) + p1).toNatClampNeg then none else
  some (M.1 1 (((6 : Int32) + ((3 : Int32) * p0)) + p1).toNatClampNeg)
def f_X7_isThrough (M : nb_M) (p0 : Int32) : Option Int32 :=
  nb_o (f_X7_about M p0 (2 : Int32)) fun r_1 =>
  nb_o (f_X7_about M p0 (1 : Int32)) fun r_2 =>
  if r_1 < r_2 then (
    some (0 : Int32)
  ) else (
    some (1 : Int32)
  )
def f_X7_dueOf (M : nb_M) (p0 : Int32) : Option Int32 :=
  nb_o (f_X7_about M p0 (1 : Int32)) fun r_1 =>
  nb_o (f_X7_about M p0 (2 : Int32)) fun r_2 =>
  nb_n (r_1 - r_2) fun v_3 =>
  if 0 ≤ v_3 then (
    some v_3
  ) else (
    some (0 : Int32)
  )
def f_X7_of (M : nb_M) (p0 : Int32) (p1 : Int32) : Option Int32 :=
  if ((21 : Int32) + ((4 : Int32) * p0)) + p1 < 0 ∨ 383 ≤ (((21 : Int32) + ((4 : Int32) * p0)) + p1).toNatClampNeg then none else
  some (M.1 1 (((21 : Int32) + ((4 : Int32) * p0)) + p1).toNatClampNeg)
def f_X7_shards_4 : Nat → nb_M → Int32 → Int32 → Option Int32
  | 0, _, _, _ => none
  | n + 1, M, x1, x2 =>
    if (M.1 1 (2 : Int32).toNatClampNeg) ≤ x2 then (
      some x1
    ) else (
      nb_o (f_X7_of M x2 (3 : Int32)) fun r_2 =>
      if r_2 = (1 : Int32) then (
        nb_n (x1 + (1 : Int32)) fun v_5 =>
        f_X7_shards_4 n M v_5 (x2 + 1)
      ) else (
        nb_n (x1 + (0 : Int32)) fun v_4 =>
        f_X7_shards_4 n M v_4 (x2 + 1)
      )
    )
def f_X7_shards (M : nb_M) : Option Int32 :=
  f_X7_shards_4 nb_F M (0 : Int32) (0 : Int32)
def f_X7_held (p0 : Int32) (p1 : Int32) (p2 : Int32) : Int32 :=
  if p1 ≤ p0 then (
    if p0 ≤ p2 then (
      p0
    ) else (
      p2
    )
  ) else (
    p1
  )
def f_X7_twoOf (p0 : Int32) (p1 : Int32) (p2 : Int32) : Option Int32 :=
  if p0 = 37 then (
    if p2 = 0 then (
      some (0 : Int32)
    ) else (
      if p2 = 0 then none else
      some (p1 - p1 / p2 * p2)
    )
  ) else (
    if p0 = 38 then (
      if p1 = 0 then (
        some (0 : Int32)
      ) else (
        if p2 = 0 then (
          some (0 : Int32)
        ) else (
          some (1 : Int32)
        )
      )
    ) else (
      if p0 = 42 then (
        some (p1 * p2)
      ) else (
        if p0 = 43 then (
          some (p1 + p2)
        ) else (
          if p0 = 45 then (
            some (p1 - p2)
          ) else (
            if p0 = 47 then (
              if p2 = 0 then (
                some (0 : Int32)
              ) else (
                if p2 = 0 then none else
                some (p1 / p2)
              )
            ) else (
              if p0 = 60 then (
                if p2 ≤ p1 then (
                  some (0 : Int32)
                ) else (
                  some (1 : Int32)
                )
              ) else (
                if p0 = 61 then (
                  if p1 = p2 then (
                    some (1 : Int32)
                  ) else (
                    some (0 : Int32)
                  )
                ) else (
                  if p0 = 62 then (
                    if p1 ≤ p2 then (
                      some (0 : Int32)
                    ) else (
                      some (1 : Int32)
                    )
                  ) else (
                    if p1 = 0 then (
                      if p2 = 0 then (
                        some (0 : Int32)
                      ) else (
                        some (1 : Int32)
                      )
                    ) else (
                      some (1 : Int32)
                    )
                  )
                )
              )
            )
          )
        )
      )
    )
  )
def f_X7_works_4 : Nat → nb_M → Int32 → Int32 → Int32 → Option (Int32 × nb_M)
  | 0, _, _, _, _ => none
  | n + 1, M, x1, x2, x3 =>
    if x1 < 0 ∨ 383 ≤ x1.toNatClampNeg then none else
    if (M.1 1 x1.toNatClampNeg) ≤ x3 then (
      some (M.1 10 (0 : Int32).toNatClampNeg, M)
    ) else (
      if (x1 + (1 : Int32)) + x3 < 0 ∨ 383 ≤ ((x1 + (1 : Int32)) + x3).toNatClampNeg then none else
      nb_n (M.1 1 ((x1 + (1 : Int32)) + x3).toNatClampNeg) fun v_4 =>
      if v_4 = (1 : Int32) then (
        if (x1 + (61 : Int32)) + x3 < 0 ∨ 383 ≤ ((x1 + (61 : Int32)) + x3).toNatClampNeg then none else
        if x2 < 0 ∨ 60 ≤ x2.toNatClampNeg then none else
        nb_n (nb_i M 10 x2.toNatClampNeg (M.1 1 ((x1 + (61 : Int32)) + x3).toNatClampNeg)) fun M_9 =>
        f_X7_works_4 n M_9 x1 (x2 + 1) (x3 + 1)
      ) else (
        if v_4 = (2 : Int32) then (
          if (x1 + (61 : Int32)) + x3 < 0 ∨ 383 ≤ ((x1 + (61 : Int32)) + x3).toNatClampNeg then none else
          if M.1 1 ((x1 + (61 : Int32)) + x3).toNatClampNeg < 0 ∨ 3 ≤ (M.1 1 ((x1 + (61 : Int32)) + x3).toNatClampNeg).toNatClampNeg then none else
          if x2 < 0 ∨ 60 ≤ x2.toNatClampNeg then none else
          nb_n (nb_i M 10 x2.toNatClampNeg (M.1 9 (M.1 1 ((x1 + (61 : Int32)) + x3).toNatClampNeg).toNatClampNeg)) fun M_24 =>
          f_X7_works_4 n M_24 x1 (x2 + 1) (x3 + 1)
        ) else (
          if v_4 = (3 : Int32) then (
            if x2 - (1 : Int32) < 0 ∨ 60 ≤ (x2 - (1 : Int32)).toNatClampNeg then none else
            if (M.1 10 (x2 - (1 : Int32)).toNatClampNeg) = 0 then (
              nb_n (nb_i M 10 (x2 - (1 : Int32)).toNatClampNeg (1 : Int32)) fun M_19 =>
              f_X7_works_4 n M_19 x1 x2 (x3 + 1)
            ) else (
              nb_n (nb_i M 10 (x2 - (1 : Int32)).toNatClampNeg (0 : Int32)) fun M_18 =>
              f_X7_works_4 n M_18 x1 x2 (x3 + 1)
            )
          ) else (
            if (x2 + (-1)) - (1 : Int32) < 0 ∨ 60 ≤ ((x2 + (-1)) - (1 : Int32)).toNatClampNeg then none else
            if x2 + (-1) < 0 ∨ 60 ≤ (x2 + (-1)).toNatClampNeg then none else
            nb_o (f_X7_twoOf v_4 (M.1 10 ((x2 + (-1)) - (1 : Int32)).toNatClampNeg) (M.1 10 (x2 + (-1)).toNatClampNeg)) fun r_14 =>
            nb_n (nb_i M 10 ((x2 + (-1)) - (1 : Int32)).toNatClampNeg r_14) fun M_15 =>
            f_X7_works_4 n M_15 x1 (x2 + (-1)) (x3 + 1)
          )
        )
      )
    )
def f_X7_works (M : nb_M) (p0 : Int32) : Option (Int32 × nb_M) :=
  f_X7_works_4 nb_F M p0 (0 : Int32) (0 : Int32)
def f_X7_gives (M : nb_M) (p0 : Int32) (p1 : Int32) (p2 : Int32) (p3 : Int32) : Option (Int32 × nb_M) :=
  nb_n ((141 : Int32) + ((121 : Int32) * p0)) fun v_1 =>
  nb_n (nb_i M 9 (0 : Int32).toNatClampNeg p1) fun M_2 =>
  nb_n (nb_i M_2 9 (1 : Int32).toNatClampNeg p2) fun M_3 =>
  nb_n (nb_i M_3 9 (2 : Int32).toNatClampNeg p3) fun M_4 =>
  if v_1 < 0 ∨ 383 ≤ v_1.toNatClampNeg then none else
  if (M_4.1 1 v_1.toNatClampNeg) ≤ 0 then (
    if p0 = 0 then (
      some (f_X7_held p1 (0 : Int32) (16 : Int32), M_4)
    ) else (
      nb_n ((10 : Int32) * p1) fun v_8 =>
      if p0 = 0 then (
        some (f_X7_held v_8 (0 : Int32) (16 : Int32), M_4)
      ) else (
        some (f_X7_held v_8 (0 : Int32) (199 : Int32), M_4)
      )
    )
  ) else (
    nb_p (f_X7_works M_4 v_1) fun r_14 M_14 =>
    if p0 = 0 then (
      some (f_X7_held r_14 (0 : Int32) (16 : Int32), M_14)
    ) else (
      some (f_X7_held r_14 (0 : Int32) (199 : Int32), M_14)
    )
  )
def f_X7_personIs (M : nb_M) (p0 : Int32) (p1 : Int32) : Option (Int32 × nb_M) :=
  if (f_X7_isPerson M p0) = 0 then (
    nb_p (f_X7_error M (-1000000001 : Int32)) fun r_17 M_17 =>
    some (r_17, M_17)
  ) else (
    if p1 = 0 then (
      nb_o (f_X7_about M p0 p1) fun r_4 =>
      some (r_4, M)
    ) else (
      if p1 = 1 then (
        nb_o (f_X7_about M p0 p1) fun r_6 =>
        some (r_6, M)
      ) else (
        if p1 = 2 then (
          nb_o (f_X7_about M p0 p1) fun r_8 =>
          some (r_8, M)
        ) else (
          if p1 = 3 then (
            nb_o (f_X7_isThrough M p0) fun r_10 =>
            if r_10 = 0 then (
              some ((0 : Int32), M)
            ) else (
              some ((1 : Int32), M)
            )
          ) else (
            if p1 = 4 then (
              nb_o (f_X7_dueOf M p0) fun r_13 =>
              nb_o (f_X7_shards M) fun r_14 =>
              nb_p (f_X7_gives M (1 : Int32) r_13 r_14 p0) fun r_15 M_15 =>
              some (r_15, M_15)
            ) else (
              nb_p (f_X7_error M (-1000000001 : Int32)) fun r_16 M_16 =>
              some (r_16, M_16)
            )
          )
        )
      )
    )
  )
def f_X7_isKm (p0 : Int32) : Int32 :=
  f_X7_in p0 (0 : Int32) (69 : Int32)
theorem z_X7_isKm (p0 : Int32) : f_X7_isKm p0 = 0 ∨ f_X7_isKm p0 = 1 := by
  unfold f_X7_isKm
  exact z_X7_in p0 (0 : Int32) (69 : Int32)
def f_X7_lets (M : nb_M) (p0 : Int32) (p1 : Int32) (p2 : Int32) : Option nb_M :=
  if ((21 : Int32) + ((4 : Int32) * p0)) + p1 < 0 ∨ 383 ≤ (((21 : Int32) + ((4 : Int32) * p0)) + p1).toNatClampNeg then none else
  nb_n (nb_i M 1 (((21 : Int32) + ((4 : Int32) * p0)) + p1).toNatClampNeg p2) fun M_2 =>
  some M_2
def f_X7_piece (M : nb_M) (p0 : Int32) (p1 : Int32) : Option (Int32 × nb_M) :=
  if (f_X7_isKm p0) = 0 then (
    nb_p (f_X7_error M (-1000000001 : Int32)) fun r_3 M_3 =>
    some (r_3, M_3)
  ) else (
    if (f_X7_isPerson M p1) = 0 then (
      nb_p (f_X7_error M (-1000000001 : Int32)) fun r_14 M_14 =>
      some (r_14, M_14)
    ) else (
      nb_n (M.1 1 (2 : Int32).toNatClampNeg) fun v_6 =>
      if v_6 = (9 : Int32) then (
        nb_p (f_X7_error M (-1000000004 : Int32)) fun r_13 M_13 =>
        some (r_13, M_13)
      ) else (
        nb_n (nb_i M 1 (2 : Int32).toNatClampNeg ((M.1 1 (2 : Int32).toNatClampNeg) + (1 : Int32))) fun M_8 =>
        nb_o (f_X7_lets M_8 v_6 (0 : Int32) (p0 / (10 : Int32))) fun M_9 =>
        nb_o (f_X7_lets M_9 v_6 (1 : Int32) (p0 - p0 / (10 : Int32) * (10 : Int32))) fun M_10 =>
        nb_o (f_X7_lets M_10 v_6 (2 : Int32) p1) fun M_11 =>
        nb_o (f_X7_lets M_11 v_6 (3 : Int32) (0 : Int32)) fun M_12 =>
        some (v_6, M_12)
      )
    )
  )
def f_X7_isPiece (M : nb_M) (p0 : Int32) : Int32 :=
  f_X7_in p0 (0 : Int32) ((M.1 1 (2 : Int32).toNatClampNeg) - (1 : Int32))
theorem z_X7_isPiece (M : nb_M) (p0 : Int32) : f_X7_isPiece M p0 = 0 ∨ f_X7_isPiece M p0 = 1 := by
  unfold f_X7_isPiece
  exact z_X7_in p0 (0 : Int32) ((M.1 1 (2 : Int32).toNatClampNeg) - (1 : Int32))
def f_X7_doesCountOn (M : nb_M) (p0 : Int32) (p1 : Int32) : Option Int32 :=
  nb_o (f_X7_of M p0 (1 : Int32)) fun r_1 =>
  nb_o (f_X7_of M p0 (0 : Int32)) fun r_2 =>
  if r_2 = 2 then (
    if (p1 - p1 / (2 : Int32) * (2 : Int32)) = 0 then (
      some (1 : Int32)
    ) else (
      if r_1 ≤ (4 : Int32) then (
        some (0 : Int32)
      ) else (
        some (1 : Int32)
      )
    )
  ) else (
    if r_2 = 3 then (
      if (8 : Int32) ≤ r_1 then (
        some (0 : Int32)
      ) else (
        some (1 : Int32)
      )
    ) else (
      if r_2 = 4 then (
        nb_o (f_X7_shards M) fun r_9 =>
        if r_9 ≤ 0 then (
          some (0 : Int32)
        ) else (
          some (1 : Int32)
        )
      ) else (
        if r_2 = 5 then (
          if (p1 - p1 / (2 : Int32) * (2 : Int32)) = 0 then (
            some (1 : Int32)
          ) else (
            if (4 : Int32) < r_1 then (
              some (1 : Int32)
            ) else (
              if p1 ≤ (100 : Int32) then (
                some (0 : Int32)
              ) else (
                some (1 : Int32)
              )
            )
          )
        ) else (
          if r_2 = 6 then (
            some (0 : Int32)
          ) else (
            some (1 : Int32)
          )
        )
      )
    )
  )
def f_X7_doesCount (M : nb_M) (p0 : Int32) : Option Int32 :=
  nb_o (f_X7_doesCountOn M p0 (M.1 1 (0 : Int32).toNatClampNeg)) fun r_1 =>
  if ¬ (r_1 = 0 ∨ r_1 = 1) then none else
  some r_1
def f_X7_slipsOf (M : nb_M) (p0 : Int32) (p1 : Int32) : Option Int32 :=
  nb_o (f_X7_of M p0 (1 : Int32)) fun r_1 =>
  nb_n (((10 : Int32) - p1) + r_1) fun v_2 =>
  nb_o (f_X7_of M p0 (0 : Int32)) fun r_3 =>
  if r_3 = 1 then (
    some (v_2 + (3 : Int32))
  ) else (
    if r_3 = 2 then (
      some (v_2 / (2 : Int32))
    ) else (
      if r_3 = 3 then (
        some (v_2 - r_1)
      ) else (
        if r_3 = 4 then (
          some ((v_2 + (3 : Int32)) + ((M.1 1 (0 : Int32).toNatClampNeg) - (M.1 1 (0 : Int32).toNatClampNeg) / (3 : Int32) * (3 : Int32)))
        ) else (
          if r_3 = 5 then (
            nb_o (f_X7_shards M) fun r_9 =>
            some ((v_2 / (2 : Int32)) + r_9)
          ) else (
            if r_3 = 6 then (
              if p1 ≤ (6 : Int32) then (
                some v_2
              ) else (
                some (0 : Int32)
              )
            ) else (
              some v_2
            )
          )
        )
      )
    )
  )
def f_X7_riskBy (M : nb_M) (p0 : Int32) (p1 : Int32) : Option (Int32 × nb_M) :=
  nb_o (f_X7_slipsOf M p0 p1) fun r_1 =>
  nb_p (f_X7_gives M (0 : Int32) r_1 p1 ((M.1 1 (0 : Int32).toNatClampNeg) - (M.1 1 (0 : Int32).toNatClampNeg) / (7 : Int32) * (7 : Int32))) fun r_2 M_2 =>
  some (r_2, M_2)
def f_X7_riskOf (M : nb_M) (p0 : Int32) (p1 : Int32) : Option (Int32 × nb_M) :=
  nb_o (f_X7_about M p1 (0 : Int32)) fun r_1 =>
  nb_p (f_X7_riskBy M p0 r_1) fun r_2 M_2 =>
  some (r_2, M_2)
def f_X7_pieceIs (M : nb_M) (p0 : Int32) (p1 : Int32) : Option (Int32 × nb_M) :=
  if (f_X7_isPiece M p0) = 0 then (
    nb_p (f_X7_error M (-1000000001 : Int32)) fun r_3 M_3 =>
    some (r_3, M_3)
  ) else (
    if (f_X7_in p1 (0 : Int32) (5 : Int32)) = 0 then (
      nb_p (f_X7_error M (-1000000001 : Int32)) fun r_13 M_13 =>
      some (r_13, M_13)
    ) else (
      if (4 : Int32) ≤ p1 then (
        if p1 = (5 : Int32) then (
          nb_o (f_X7_of M p0 (2 : Int32)) fun r_10 =>
          nb_p (f_X7_riskOf M p0 r_10) fun r_11 M_11 =>
          some (r_11, M_11)
        ) else (
          nb_o (f_X7_doesCount M p0) fun r_8 =>
          if r_8 = 0 then (
            some ((0 : Int32), M)
          ) else (
            some ((1 : Int32), M)
          )
        )
      ) else (
        nb_o (f_X7_of M p0 p1) fun r_12 =>
        some (r_12, M)
      )
    )
  )
def f_X7_becomes (M : nb_M) (p0 : Int32) (p1 : Int32) : Option (Int32 × nb_M) :=
  if p0 < 0 ∨ 383 ≤ p0.toNatClampNeg then none else
  nb_n (M.1 1 p0.toNatClampNeg) fun v_2 =>
  nb_n (nb_i M 1 p0.toNatClampNeg p1) fun M_3 =>
  some (v_2, M_3)
def f_X7_become (M : nb_M) (p0 : Int32) (p1 : Int32) : Option (Int32 × nb_M) :=
  if (f_X7_isPiece M p0) = 0 then (
    nb_p (f_X7_error M (-1000000001 : Int32)) fun r_3 M_3 =>
    some (r_3, M_3)
  ) else (
    if (f_X7_isKm p1) = 0 then (
      nb_p (f_X7_error M (-1000000001 : Int32)) fun r_8 M_8 =>
      some (r_8, M_8)
    ) else (
      nb_o (f_X7_lets M p0 (1 : Int32) (p1 - p1 / (10 : Int32) * (10 : Int32))) fun M_6 =>
      nb_p (f_X7_becomes M_6 ((21 : Int32) + ((4 : Int32) * p0)) (p1 / (10 : Int32))) fun r_7 M_7 =>
      some (r_7, M_7)
    )
  )
def f_X7_as_61 (M : nb_M) (x1 : Int32) : Option (Int32 × nb_M) :=
  nb_o (f_X7_of M x1 (1 : Int32)) fun r_9 =>
  some (r_9, M)
def f_X7_as_65 (M : nb_M) (x1 : Int32) : Option (Int32 × nb_M) :=
  nb_p (f_X7_error M (-1000000005 : Int32)) fun r_14 M_14 =>
  some (r_14, M_14)
def f_X7_as_51 (M : nb_M) (x1 : Int32) (x2 : Int32) (x3 : Int32) : Option (Int32 × nb_M) :=
  if x2 = (2 : Int32) then (
    if x3 = (5 : Int32) then (
      f_X7_as_61 M x1
    ) else (
      f_X7_as_65 M x1
    )
  ) else (
    f_X7_as_65 M x1
  )
def f_X7_as (M : nb_M) (p0 : Int32) (p1 : Int32) : Option (Int32 × nb_M) :=
  if (f_X7_isPiece M p0) = 0 then (
    nb_p (f_X7_error M (-1000000001 : Int32)) fun r_3 M_3 =>
    some (r_3, M_3)
  ) else (
    if (f_X7_in p1 (0 : Int32) (6 : Int32)) = 0 then (
      nb_p (f_X7_error M (-1000000001 : Int32)) fun r_17 M_17 =>
      some (r_17, M_17)
    ) else (
      nb_o (f_X7_of M p0 (0 : Int32)) fun r_6 =>
      if p1 = 0 then (
        f_X7_as_61 M p0
      ) else (
        if p1 = r_6 then (
          f_X7_as_61 M p0
        ) else (
          if p1 = (1 : Int32) then (
            if r_6 = (4 : Int32) then (
              f_X7_as_61 M p0
            ) else (
              f_X7_as_51 M p0 p1 r_6
            )
          ) else (
            f_X7_as_51 M p0 p1 r_6
          )
        )
      )
    )
  )
def f_X7_minds (M : nb_M) (p0 : Int32) (p1 : Int32) : Option (Int32 × nb_M) :=
  if (f_X7_isPerson M p0) = 0 then (
    nb_p (f_X7_error M (-1000000001 : Int32)) fun r_3 M_3 =>
    some (r_3, M_3)
  ) else (
    if (f_X7_in p1 (0 : Int32) (9 : Int32)) = 0 then (
      nb_p (f_X7_error M (-1000000001 : Int32)) fun r_6 M_6 =>
      some (r_6, M_6)
    ) else (
      nb_p (f_X7_becomes M ((6 : Int32) + ((3 : Int32) * p0)) p1) fun r_7 M_7 =>
      some (r_7, M_7)
    )
  )
def f_X7_lend (M : nb_M) (p0 : Int32) (p1 : Int32) : Option (Int32 × nb_M) :=
  if (f_X7_isPiece M p0) = 0 then (
    nb_p (f_X7_error M (-1000000001 : Int32)) fun r_3 M_3 =>
    some (r_3, M_3)
  ) else (
    if (f_X7_isPerson M p1) = 0 then (
      nb_p (f_X7_error M (-1000000001 : Int32)) fun r_6 M_6 =>
      some (r_6, M_6)
    ) else (
      nb_p (f_X7_becomes M (((21 : Int32) + ((4 : Int32) * p0)) + (2 : Int32)) p1) fun r_7 M_7 =>
      some (r_7, M_7)
    )
  )
def f_X7_wall (M : nb_M) (p0 : Int32) (p1 : Int32) : Option (Int32 × nb_M) :=
  if (f_X7_isPiece M p0) = 0 then (
    nb_p (f_X7_error M (-1000000001 : Int32)) fun r_3 M_3 =>
    some (r_3, M_3)
  ) else (
    if (f_X7_in p1 (0 : Int32) (1 : Int32)) = 0 then (
      nb_p (f_X7_error M (-1000000001 : Int32)) fun r_17 M_17 =>
      some (r_17, M_17)
    ) else (
      nb_o (f_X7_of M p0 (3 : Int32)) fun r_6 =>
      if r_6 = (1 : Int32) then (
        nb_p (f_X7_error M (-1000000003 : Int32)) fun r_16 M_16 =>
        some (r_16, M_16)
      ) else (
        nb_o (f_X7_of M p0 (3 : Int32)) fun r_8 =>
        if r_8 = (2 : Int32) then (
          if p1 = (1 : Int32) then (
            nb_o (f_X7_lets M p0 (3 : Int32) (2 : Int32)) fun M_15 =>
            some ((1 : Int32), M_15)
          ) else (
            nb_o (f_X7_lets M p0 (3 : Int32) (0 : Int32)) fun M_14 =>
            some ((1 : Int32), M_14)
          )
        ) else (
          if p1 = (1 : Int32) then (
            nb_o (f_X7_lets M p0 (3 : Int32) (2 : Int32)) fun M_12 =>
            some ((0 : Int32), M_12)
          ) else (
            nb_o (f_X7_lets M p0 (3 : Int32) (0 : Int32)) fun M_11 =>
            some ((0 : Int32), M_11)
          )
        )
      )
    )
  )
def f_X7_risk (M : nb_M) (p0 : Int32) (p1 : Int32) : Option (Int32 × nb_M) :=
  if (f_X7_isPiece M p0) = 0 then (
    nb_p (f_X7_error M (-1000000001 : Int32)) fun r_3 M_3 =>
    some (r_3, M_3)
  ) else (
    if (f_X7_isPerson M p1) = 0 then (
      nb_p (f_X7_error M (-1000000001 : Int32)) fun r_6 M_6 =>
      some (r_6, M_6)
    ) else (
      nb_p (f_X7_riskOf M p0 p1) fun r_7 M_7 =>
      some (r_7, M_7)
    )
  )
def f_X7_breaksDown (M : nb_M) (p0 : Int32) : Option (Int32 × nb_M) :=
  nb_o (f_X7_doesCount M p0) fun r_1 =>
  nb_o (f_X7_of M p0 (2 : Int32)) fun r_2 =>
  nb_n (((6 : Int32) + ((3 : Int32) * r_2)) + (2 : Int32)) fun v_3 =>
  if v_3 < 0 ∨ 383 ≤ v_3.toNatClampNeg then none else
  if r_1 = 0 then (
    nb_n (nb_i M 1 v_3.toNatClampNeg (f_X7_held ((M.1 1 v_3.toNatClampNeg) + (0 : Int32)) (0 : Int32) (9999 : Int32))) fun M_7 =>
    nb_o (f_X7_lets M_7 p0 (3 : Int32) (1 : Int32)) fun M_8 =>
    if ¬ (r_1 = 0 ∨ r_1 = 1) then none else
    some (r_1, M_8)
  ) else (
    nb_n (nb_i M 1 v_3.toNatClampNeg (f_X7_held ((M.1 1 v_3.toNatClampNeg) + (1 : Int32)) (0 : Int32) (9999 : Int32))) fun M_11 =>
    nb_o (f_X7_lets M_11 p0 (3 : Int32) (1 : Int32)) fun M_12 =>
    if ¬ (r_1 = 0 ∨ r_1 = 1) then none else
    some (r_1, M_12)
  )
def f_X7_drop (M : nb_M) (p0 : Int32) : Option (Int32 × nb_M) :=
  if (f_X7_isPiece M p0) = 0 then (
    nb_p (f_X7_error M (-1000000001 : Int32)) fun r_8 M_8 =>
    some (r_8, M_8)
  ) else (
    nb_o (f_X7_of M p0 (3 : Int32)) fun r_3 =>
    if r_3 = 0 then (
      nb_p (f_X7_breaksDown M p0) fun r_5 M_5 =>
      if r_5 = 0 then (
        some ((0 : Int32), M_5)
      ) else (
        some ((1 : Int32), M_5)
      )
    ) else (
      nb_p (f_X7_error M (-1000000003 : Int32)) fun r_7 M_7 =>
      some (r_7, M_7)
    )
  )
def f_X7_feed_40 : Nat → nb_M → Int64 → Int32 → Int32 → Option (Int32 × nb_M)
  | 0, _, _, _, _ => none
  | n + 1, M, x1, x3, x4 =>
    if x3 ≤ x4 then (
      some (M.1 1 (4 : Int32).toNatClampNeg, M)
    ) else (
      if (57 : Int32) + (M.1 1 (4 : Int32).toNatClampNeg) < 0 ∨ 383 ≤ ((57 : Int32) + (M.1 1 (4 : Int32).toNatClampNeg)).toNatClampNeg then none else
      nb_n (nb_i M 1 ((57 : Int32) + (M.1 1 (4 : Int32).toNatClampNeg)).toNatClampNeg (((x1 >>> (((8 : Int32) * x4).toInt64 &&& 63)) &&& (255 : Int64)).toInt32)) fun M_6 =>
      nb_n (nb_i M_6 1 (4 : Int32).toNatClampNeg ((M_6.1 1 (4 : Int32).toNatClampNeg) + (1 : Int32))) fun M_7 =>
      f_X7_feed_40 n M_7 x1 x3 (x4 + 1)
    )
def f_X7_feed (M : nb_M) (p0 : Int64) (p1 : Int32) : Option (Int32 × nb_M) :=
  if (f_X7_in p1 (1 : Int32) (8 : Int32)) = 0 then (
    nb_p (f_X7_error M (-1000000001 : Int32)) fun r_9 M_9 =>
    some (r_9, M_9)
  ) else (
    if ((M.1 1 (4 : Int32).toNatClampNeg) + p1) ≤ (60 : Int32) then (
      f_X7_feed_40 nb_F M p0 p1 (0 : Int32)
    ) else (
      nb_p (f_X7_error M (-1000000004 : Int32)) fun r_8 M_8 =>
      some (r_8, M_8)
    )
  )
def f_X7_look (M : nb_M) : Option Int32 :=
  if (M.1 1 (4 : Int32).toNatClampNeg) ≤ (M.1 0 12) then (
    some (-1 : Int32)
  ) else (
    if (57 : Int32) + (M.1 0 12) < 0 ∨ 383 ≤ ((57 : Int32) + (M.1 0 12)).toNatClampNeg then none else
    some (M.1 1 ((57 : Int32) + (M.1 0 12)).toNatClampNeg)
  )
def f_X7_lays (M : nb_M) (p0 : Int32) (p1 : Int32) : Option nb_M :=
  if (60 : Int32) ≤ (M.1 0 11) then (
    some M
  ) else (
    if M.1 0 11 < 0 ∨ 60 ≤ (M.1 0 11).toNatClampNeg then none else
    nb_n (nb_i M 7 (M.1 0 11).toNatClampNeg p0) fun M_3 =>
    if M_3.1 0 11 < 0 ∨ 60 ≤ (M_3.1 0 11).toNatClampNeg then none else
    nb_n (nb_i M_3 8 (M_3.1 0 11).toNatClampNeg p1) fun M_5 =>
    nb_n (nb_i M_5 0 11 ((M_5.1 0 11) + (1 : Int32))) fun M_6 =>
    some M_6
  )
def f_X7_nameOf (M : nb_M) (p0 : Int32) : Int32 :=
  if p0 = 98 then (
    if (M.1 0 15) = (1 : Int32) then (
      (1 : Int32)
    ) else (
      (-1 : Int32)
    )
  ) else (
    if p0 = 99 then (
      if (M.1 0 15) = 0 then (
        (1 : Int32)
      ) else (
        (0 : Int32)
      )
    ) else (
      if p0 = 100 then (
        if (M.1 0 15) = 0 then (
          (2 : Int32)
        ) else (
          (-1 : Int32)
        )
      ) else (
        if p0 = 112 then (
          if (M.1 0 15) = (1 : Int32) then (
            (2 : Int32)
          ) else (
            (-1 : Int32)
          )
        ) else (
          if p0 = 114 then (
            if (M.1 0 15) = 0 then (
              (0 : Int32)
            ) else (
              (-1 : Int32)
            )
          ) else (
            (-1 : Int32)
          )
        )
      )
    )
  )
def f_X7_number_52 (M : nb_M) (x1 : Int32) (x2 : Int32) : Option nb_M :=
  if x2 = 0 then (
    nb_n (nb_i M 0 14 (1 : Int32)) fun M_5 =>
    nb_o (f_X7_lays M_5 (1 : Int32) x1) fun M_6 =>
    some M_6
  ) else (
    nb_n (nb_i M 0 14 (0 : Int32)) fun M_3 =>
    nb_o (f_X7_lays M_3 (1 : Int32) x1) fun M_4 =>
    some M_4
  )
def f_X7_number_4 : Nat → nb_M → Int32 → Int32 → Option nb_M
  | 0, _, _, _ => none
  | n + 1, M, x1, x2 =>
    if (4 : Int32) ≤ x2 then (
      f_X7_number_52 M x1 x2
    ) else (
      nb_o (f_X7_look M) fun r_7 =>
      if (f_X7_in r_7 (48 : Int32) (57 : Int32)) = 0 then (
        f_X7_number_52 M x1 x2
      ) else (
        nb_o (f_X7_look M) fun r_10 =>
        nb_n ((((10 : Int32) * x1) + r_10) - (48 : Int32)) fun v_11 =>
        nb_n (nb_i M 0 12 ((M.1 0 12) + (1 : Int32))) fun M_12 =>
        f_X7_number_4 n M_12 v_11 (x2 + 1)
      )
    )
def f_X7_number (M : nb_M) : Option nb_M :=
  f_X7_number_4 nb_F M (0 : Int32) (0 : Int32)
def f_X7_any_4 (rc : Nat → nb_M → Int32 → Option nb_M) : Nat → nb_M → Option nb_M
  | 0, _ => none
  | n + 1, M =>
    if (M.1 0 14) = 0 then (
      nb_o (f_X7_look M) fun r_3 =>
      if r_3 = (124 : Int32) then (
        nb_n (nb_i M 0 12 ((M.1 0 12) + (1 : Int32))) fun M_5 =>
        nb_o (rc 1 M_5 0) fun M_6 =>
        nb_o (f_X7_lays M_6 (124 : Int32) (0 : Int32)) fun M_7 =>
        f_X7_any_4 rc n M_7 
      ) else (
        some M
      )
    ) else (
      some M
    )
def f_X7_any (rc : Nat → nb_M → Int32 → Option nb_M) (M : nb_M) : Option nb_M :=
  nb_o (rc 1 M 0) fun M_1 =>
  f_X7_any_4 rc nb_F M_1 
def f_X7_all_4 (rc : Nat → nb_M → Int32 → Option nb_M) : Nat → nb_M → Option nb_M
  | 0, _ => none
  | n + 1, M =>
    if (M.1 0 14) = 0 then (
      nb_o (f_X7_look M) fun r_3 =>
      if r_3 = (38 : Int32) then (
        nb_n (nb_i M 0 12 ((M.1 0 12) + (1 : Int32))) fun M_5 =>
        nb_o (rc 2 M_5 0) fun M_6 =>
        nb_o (f_X7_lays M_6 (38 : Int32) (0 : Int32)) fun M_7 =>
        f_X7_all_4 rc n M_7 
      ) else (
        some M
      )
    ) else (
      some M
    )
def f_X7_all (rc : Nat → nb_M → Int32 → Option nb_M) (M : nb_M) : Option nb_M :=
  nb_o (rc 2 M 0) fun M_1 =>
  f_X7_all_4 rc nb_F M_1 
def f_X7_compares_34 (rc : Nat → nb_M → Int32 → Option nb_M) (M : nb_M) (x1 : Int32) : Option nb_M :=
  nb_n (nb_i M 0 12 ((M.1 0 12) + (1 : Int32))) fun M_5 =>
  nb_o (rc 3 M_5 0) fun M_6 =>
  nb_o (f_X7_lays M_6 x1 (0 : Int32)) fun M_7 =>
  some M_7
def f_X7_compares (rc : Nat → nb_M → Int32 → Option nb_M) (M : nb_M) : Option nb_M :=
  nb_o (rc 3 M 0) fun M_1 =>
  nb_o (f_X7_look M_1) fun r_2 =>
  if (M_1.1 0 14) = 0 then (
    if r_2 = (60 : Int32) then (
      f_X7_compares_34 rc M_1 r_2
    ) else (
      if r_2 = (61 : Int32) then (
        f_X7_compares_34 rc M_1 r_2
      ) else (
        if r_2 = (62 : Int32) then (
          f_X7_compares_34 rc M_1 r_2
        ) else (
          some M_1
        )
      )
    )
  ) else (
    some M_1
  )
def f_X7_sum_4 (rc : Nat → nb_M → Int32 → Option nb_M) : Nat → nb_M → Option nb_M
  | 0, _ => none
  | n + 1, M =>
    if (M.1 0 14) = 0 then (
      nb_o (f_X7_look M) fun r_3 =>
      if r_3 = (43 : Int32) then (
        nb_o (f_X7_look M) fun r_5 =>
        nb_n (nb_i M 0 12 ((M.1 0 12) + (1 : Int32))) fun M_6 =>
        nb_o (rc 4 M_6 0) fun M_7 =>
        nb_o (f_X7_lays M_7 r_5 (0 : Int32)) fun M_8 =>
        f_X7_sum_4 rc n M_8 
      ) else (
        nb_o (f_X7_look M) fun r_9 =>
        if r_9 = (45 : Int32) then (
          nb_o (f_X7_look M) fun r_11 =>
          nb_n (nb_i M 0 12 ((M.1 0 12) + (1 : Int32))) fun M_12 =>
          nb_o (rc 4 M_12 0) fun M_13 =>
          nb_o (f_X7_lays M_13 r_11 (0 : Int32)) fun M_14 =>
          f_X7_sum_4 rc n M_14 
        ) else (
          some M
        )
      )
    ) else (
      some M
    )
def f_X7_sum (rc : Nat → nb_M → Int32 → Option nb_M) (M : nb_M) : Option nb_M :=
  nb_o (rc 4 M 0) fun M_1 =>
  f_X7_sum_4 rc nb_F M_1 
def f_X7_times_4 (rc : Nat → nb_M → Int32 → Option nb_M) : Nat → nb_M → Option nb_M
  | 0, _ => none
  | n + 1, M =>
    if (M.1 0 14) = 0 then (
      nb_o (f_X7_look M) fun r_3 =>
      if r_3 = (42 : Int32) then (
        nb_o (f_X7_look M) fun r_5 =>
        nb_n (nb_i M 0 12 ((M.1 0 12) + (1 : Int32))) fun M_6 =>
        nb_o (rc 5 M_6 0) fun M_7 =>
        nb_o (f_X7_lays M_7 r_5 (0 : Int32)) fun M_8 =>
        f_X7_times_4 rc n M_8 
      ) else (
        nb_o (f_X7_look M) fun r_9 =>
        if r_9 = (47 : Int32) then (
          nb_o (f_X7_look M) fun r_11 =>
          nb_n (nb_i M 0 12 ((M.1 0 12) + (1 : Int32))) fun M_12 =>
          nb_o (rc 5 M_12 0) fun M_13 =>
          nb_o (f_X7_lays M_13 r_11 (0 : Int32)) fun M_14 =>
          f_X7_times_4 rc n M_14 
        ) else (
          nb_o (f_X7_look M) fun r_15 =>
          if r_15 = (37 : Int32) then (
            nb_o (f_X7_look M) fun r_17 =>
            nb_n (nb_i M 0 12 ((M.1 0 12) + (1 : Int32))) fun M_18 =>
            nb_o (rc 5 M_18 0) fun M_19 =>
            nb_o (f_X7_lays M_19 r_17 (0 : Int32)) fun M_20 =>
            f_X7_times_4 rc n M_20 
          ) else (
            some M
          )
        )
      )
    ) else (
      some M
    )
def f_X7_times (rc : Nat → nb_M → Int32 → Option nb_M) (M : nb_M) : Option nb_M :=
  nb_o (rc 5 M 0) fun M_1 =>
  f_X7_times_4 rc nb_F M_1 
def f_X7_one (rc : Nat → nb_M → Int32 → Option nb_M) (M : nb_M) : Option nb_M :=
  nb_o (f_X7_look M) fun r_1 =>
  nb_n (f_X7_nameOf M r_1) fun v_3 =>
  if v_3 < 0 then (
    if r_1 = (33 : Int32) then (
      nb_o (rc 6 M r_1) fun M_6 =>
      some M_6
    ) else (
      if r_1 = (40 : Int32) then (
        nb_o (rc 6 M r_1) fun M_9 =>
        some M_9
      ) else (
        nb_o (f_X7_number M) fun M_8 =>
        some M_8
      )
    )
  ) else (
    nb_n (nb_i M 0 12 ((M.1 0 12) + (1 : Int32))) fun M_10 =>
    nb_o (f_X7_lays M_10 (2 : Int32) v_3) fun M_11 =>
    some M_11
  )
def f_X7_opens (rc : Nat → nb_M → Int32 → Option nb_M) (M : nb_M) (p0 : Int32) : Option nb_M :=
  if (M.1 0 13) = (5 : Int32) then (
    nb_n (nb_i M 0 14 (1 : Int32)) fun M_30 =>
    some M_30
  ) else (
    nb_n (nb_i M 0 13 ((M.1 0 13) + (1 : Int32))) fun M_2 =>
    nb_n (nb_i M_2 0 12 ((M_2.1 0 12) + (1 : Int32))) fun M_3 =>
    if p0 = (33 : Int32) then (
      nb_o (rc 5 M_3 0) fun M_27 =>
      nb_o (f_X7_lays M_27 (3 : Int32) (0 : Int32)) fun M_28 =>
      nb_n (nb_i M_28 0 13 ((M_28.1 0 13) - (1 : Int32))) fun M_29 =>
      some M_29
    ) else (
      nb_o (rc 0 M_3 0) fun M_5 =>
      if (M_5.1 0 14) = 0 then (
        nb_o (f_X7_look M_5) fun r_13 =>
        if r_13 = (41 : Int32) then (
          nb_n (nb_i M_5 0 14 (0 : Int32)) fun M_15 =>
          if (M_15.1 0 14) = 0 then (
            nb_n (nb_i M_15 0 12 ((M_15.1 0 12) + (1 : Int32))) fun M_17 =>
            nb_n (nb_i M_17 0 13 ((M_17.1 0 13) - (1 : Int32))) fun M_18 =>
            some M_18
          ) else (
            nb_n (nb_i M_15 0 12 ((M_15.1 0 12) + (0 : Int32))) fun M_19 =>
            nb_n (nb_i M_19 0 13 ((M_19.1 0 13) - (1 : Int32))) fun M_20 =>
            some M_20
          )
        ) else (
          nb_n (nb_i M_5 0 14 (1 : Int32)) fun M_21 =>
          if (M_21.1 0 14) = 0 then (
            nb_n (nb_i M_21 0 12 ((M_21.1 0 12) + (1 : Int32))) fun M_23 =>
            nb_n (nb_i M_23 0 13 ((M_23.1 0 13) - (1 : Int32))) fun M_24 =>
            some M_24
          ) else (
            nb_n (nb_i M_21 0 12 ((M_21.1 0 12) + (0 : Int32))) fun M_25 =>
            nb_n (nb_i M_25 0 13 ((M_25.1 0 13) - (1 : Int32))) fun M_26 =>
            some M_26
          )
        )
      ) else (
        nb_n (nb_i M_5 0 14 (1 : Int32)) fun M_7 =>
        if (M_7.1 0 14) = 0 then (
          nb_n (nb_i M_7 0 12 ((M_7.1 0 12) + (1 : Int32))) fun M_9 =>
          nb_n (nb_i M_9 0 13 ((M_9.1 0 13) - (1 : Int32))) fun M_10 =>
          some M_10
        ) else (
          nb_n (nb_i M_7 0 12 ((M_7.1 0 12) + (0 : Int32))) fun M_11 =>
          nb_n (nb_i M_11 0 13 ((M_11.1 0 13) - (1 : Int32))) fun M_12 =>
          some M_12
        )
      )
    )
  )
def f_MP : Nat → Nat → nb_M → Int32 → Option nb_M
  | 0, _, _, _ => none
  | d + 1, s, M, a =>
    if s = 0 then f_X7_any (f_MP d) M
    else if s = 1 then f_X7_all (f_MP d) M
    else if s = 2 then f_X7_compares (f_MP d) M
    else if s = 3 then f_X7_sum (f_MP d) M
    else if s = 4 then f_X7_times (f_MP d) M
    else if s = 5 then f_X7_one (f_MP d) M
    else if s = 6 then f_X7_opens (f_MP d) M a
    else none
def f_X7_any_x (M : nb_M) : Option nb_M := f_MP nb_dp 0 M  0
def f_X7_all_x (M : nb_M) : Option nb_M := f_MP nb_dp 1 M  0
def f_X7_compares_x (M : nb_M) : Option nb_M := f_MP nb_dp 2 M  0
def f_X7_sum_x (M : nb_M) : Option nb_M := f_MP nb_dp 3 M  0
def f_X7_times_x (M : nb_M) : Option nb_M := f_MP nb_dp 4 M  0
def f_X7_one_x (M : nb_M) : Option nb_M := f_MP nb_dp 5 M  0
def f_X7_opens_x (M : nb_M) (p0 : Int32) : Option nb_M := f_MP nb_dp 6 M p0
def f_X7_text_117 : Nat → nb_M → Int32 → Int32 → Option (Int32 × nb_M)
  | 0, _, _, _ => none
  | n + 1, M, x2, x3 =>
    if (M.1 0 11) ≤ x3 then (
      some ((1 : Int32), M)
    ) else (
      if x3 < 0 ∨ 60 ≤ x3.toNatClampNeg then none else
      if (x2 + (1 : Int32)) + x3 < 0 ∨ 383 ≤ ((x2 + (1 : Int32)) + x3).toNatClampNeg then none else
      nb_n (nb_i M 1 ((x2 + (1 : Int32)) + x3).toNatClampNeg (M.1 7 x3.toNatClampNeg)) fun M_19 =>
      if (x2 + (61 : Int32)) + x3 < 0 ∨ 383 ≤ ((x2 + (61 : Int32)) + x3).toNatClampNeg then none else
      nb_n (nb_i M_19 1 ((x2 + (61 : Int32)) + x3).toNatClampNeg (M_19.1 8 x3.toNatClampNeg)) fun M_21 =>
      f_X7_text_117 n M_21 x2 (x3 + 1)
    )
def f_X7_text (M : nb_M) (p0 : Int32) : Option (Int32 × nb_M) :=
  if (f_X7_in p0 (0 : Int32) (1 : Int32)) = 0 then (
    nb_p (f_X7_error M (-1000000001 : Int32)) fun r_35 M_35 =>
    some (r_35, M_35)
  ) else (
    nb_n (nb_i M 0 15 p0) fun M_3 =>
    nb_n (nb_i M_3 0 11 (0 : Int32)) fun M_4 =>
    nb_n (nb_i M_4 0 12 (0 : Int32)) fun M_5 =>
    nb_n (nb_i M_5 0 13 (0 : Int32)) fun M_6 =>
    nb_n (nb_i M_6 0 14 (0 : Int32)) fun M_7 =>
    nb_o (f_X7_any_x M_7) fun M_8 =>
    if (M_8.1 0 14) = 0 then (
      if (M_8.1 1 (4 : Int32).toNatClampNeg) ≤ (M_8.1 0 12) then (
        nb_n (nb_i M_8 0 14 (0 : Int32)) fun M_23 =>
        nb_n (nb_i M_23 1 (4 : Int32).toNatClampNeg (0 : Int32)) fun M_24 =>
        if (M_24.1 0 14) = 0 then (
          nb_n ((141 : Int32) + ((121 : Int32) * p0)) fun v_26 =>
          if v_26 < 0 ∨ 383 ≤ v_26.toNatClampNeg then none else
          nb_n (nb_i M_24 1 v_26.toNatClampNeg (M_24.1 0 11)) fun M_28 =>
          f_X7_text_117 nb_F M_28 v_26 (0 : Int32)
        ) else (
          some ((-10 : Int32) - (M_24.1 0 12), M_24)
        )
      ) else (
        nb_n (nb_i M_8 0 14 (1 : Int32)) fun M_29 =>
        nb_n (nb_i M_29 1 (4 : Int32).toNatClampNeg (0 : Int32)) fun M_30 =>
        if (M_30.1 0 14) = 0 then (
          nb_n ((141 : Int32) + ((121 : Int32) * p0)) fun v_32 =>
          if v_32 < 0 ∨ 383 ≤ v_32.toNatClampNeg then none else
          nb_n (nb_i M_30 1 v_32.toNatClampNeg (M_30.1 0 11)) fun M_34 =>
          f_X7_text_117 nb_F M_34 v_32 (0 : Int32)
        ) else (
          some ((-10 : Int32) - (M_30.1 0 12), M_30)
        )
      )
    ) else (
      nb_n (nb_i M_8 0 14 (1 : Int32)) fun M_10 =>
      nb_n (nb_i M_10 1 (4 : Int32).toNatClampNeg (0 : Int32)) fun M_11 =>
      if (M_11.1 0 14) = 0 then (
        nb_n ((141 : Int32) + ((121 : Int32) * p0)) fun v_13 =>
        if v_13 < 0 ∨ 383 ≤ v_13.toNatClampNeg then none else
        nb_n (nb_i M_11 1 v_13.toNatClampNeg (M_11.1 0 11)) fun M_15 =>
        f_X7_text_117 nb_F M_15 v_13 (0 : Int32)
      ) else (
        some ((-10 : Int32) - (M_11.1 0 12), M_11)
      )
    )
  )
def f_X7_untell (M : nb_M) (p0 : Int32) : Option (Int32 × nb_M) :=
  if (f_X7_in p0 (0 : Int32) (1 : Int32)) = 0 then (
    nb_p (f_X7_error M (-1000000001 : Int32)) fun r_5 M_5 =>
    some (r_5, M_5)
  ) else (
    nb_p (f_X7_becomes M ((141 : Int32) + ((121 : Int32) * p0)) (0 : Int32)) fun r_3 M_3 =>
    if r_3 ≤ 0 then (
      some ((0 : Int32), M_3)
    ) else (
      some ((1 : Int32), M_3)
    )
  )
def f_X7_law (M : nb_M) (p0 : Int32) (p1 : Int32) (p2 : Int32) (p3 : Int32) : Option (Int32 × nb_M) :=
  if (f_X7_in p0 (0 : Int32) (1 : Int32)) = 0 then (
    nb_p (f_X7_error M (-1000000001 : Int32)) fun r_3 M_3 =>
    some (r_3, M_3)
  ) else (
    nb_p (f_X7_gives M p0 p1 p2 p3) fun r_4 M_4 =>
    some (r_4, M_4)
  )
def f_X7_days (M : nb_M) (p0 : Int32) : Option (Int32 × nb_M) :=
  if (f_X7_in p0 (1 : Int32) (60 : Int32)) = 0 then (
    nb_p (f_X7_error M (-1000000001 : Int32)) fun r_6 M_6 =>
    some (r_6, M_6)
  ) else (
    if ((M.1 1 (0 : Int32).toNatClampNeg) + p0) ≤ (9999 : Int32) then (
      nb_n (nb_i M 1 (0 : Int32).toNatClampNeg ((M.1 1 (0 : Int32).toNatClampNeg) + p0)) fun M_4 =>
      some (M_4.1 1 (0 : Int32).toNatClampNeg, M_4)
    ) else (
      nb_p (f_X7_error M (-1000000003 : Int32)) fun r_5 M_5 =>
      some (r_5, M_5)
    )
  )
def f_X7_draw (M : nb_M) : Int32 × nb_M :=
  nb_n (nb_i M 1 (1 : Int32).toNatClampNeg (((M.1 1 (1 : Int32).toNatClampNeg) * (1103515245 : Int32)) + (12345 : Int32))) fun M_1 =>
  (((M_1.1 1 (1 : Int32).toNatClampNeg).toUInt32 >>> ((8 : Int32).toUInt32 &&& Int32.toUInt32 31)).toInt32, M_1)
def f_X7_drawn_4 : Nat → nb_M → Int32 → Int32 → Option (Int32 × nb_M)
  | 0, _, _, _ => none
  | n + 1, M, x1, x2 =>
    if (M.1 1 (2 : Int32).toNatClampNeg) ≤ x2 then (
      nb_n (nb_i M 1 (0 : Int32).toNatClampNeg ((M.1 1 (0 : Int32).toNatClampNeg) + (1 : Int32))) fun M_2 =>
      some (x1, M_2)
    ) else (
      nb_o (f_X7_of M x2 (3 : Int32)) fun r_3 =>
      if r_3 = 0 then (
        nb_o (f_X7_of M x2 (2 : Int32)) fun r_5 =>
        nb_o (f_X7_isThrough M r_5) fun r_6 =>
        if r_6 = 0 then (
          nb_q (f_X7_draw M) fun r_8 M_8 =>
          nb_o (f_X7_of M_8 x2 (2 : Int32)) fun r_9 =>
          nb_p (f_X7_riskOf M_8 x2 r_9) fun r_10 M_10 =>
          if r_10 ≤ (r_8 - r_8 / (16 : Int32) * (16 : Int32)) then (
            f_X7_drawn_4 n M_10 x1 (x2 + 1)
          ) else (
            nb_p (f_X7_breaksDown M_10 x2) fun r_12 M_12 =>
            f_X7_drawn_4 n M_12 (x1 + 1) (x2 + 1)
          )
        ) else (
          f_X7_drawn_4 n M x1 (x2 + 1)
        )
      ) else (
        f_X7_drawn_4 n M x1 (x2 + 1)
      )
    )
def f_X7_drawn (M : nb_M) : Option (Int32 × nb_M) :=
  f_X7_drawn_4 nb_F M (0 : Int32) (0 : Int32)
def f_X7_loose_42 : Nat → nb_M → Int32 → Int32 → Int32 → Option (Int32 × nb_M)
  | 0, _, _, _, _ => none
  | n + 1, M, x1, x2, x3 =>
    if x1 ≤ x3 then (
      some (x2, M)
    ) else (
      nb_p (f_X7_drawn M) fun r_5 M_5 =>
      nb_n (x2 + r_5) fun v_6 =>
      f_X7_loose_42 n M_5 x1 v_6 (x3 + 1)
    )
def f_X7_loose (M : nb_M) (p0 : Int32) : Option (Int32 × nb_M) :=
  if (f_X7_in p0 (1 : Int32) (30 : Int32)) = 0 then (
    nb_p (f_X7_error M (-1000000001 : Int32)) fun r_8 M_8 =>
    some (r_8, M_8)
  ) else (
    if ((M.1 1 (0 : Int32).toNatClampNeg) + p0) ≤ (9999 : Int32) then (
      f_X7_loose_42 nb_F M p0 (0 : Int32) (0 : Int32)
    ) else (
      nb_p (f_X7_error M (-1000000003 : Int32)) fun r_7 M_7 =>
      some (r_7, M_7)
    )
  )
def f_X7_seed (M : nb_M) (p0 : Int32) : Option (Int32 × nb_M) :=
  nb_p (f_X7_becomes M (1 : Int32) p0) fun r_1 M_1 =>
  some (r_1, M_1)
def f_X7_leftOf_4 : Nat → nb_M → Int32 → Int32 → Int32 → Option Int32
  | 0, _, _, _, _ => none
  | n + 1, M, x1, x2, x3 =>
    if (M.1 1 (2 : Int32).toNatClampNeg) ≤ x3 then (
      some x2
    ) else (
      nb_o (f_X7_of M x3 (2 : Int32)) fun r_2 =>
      if r_2 = x1 then (
        nb_o (f_X7_of M x3 (3 : Int32)) fun r_5 =>
        if r_5 = 0 then (
          nb_o (f_X7_doesCount M x3) fun r_8 =>
          if r_8 = 0 then (
            nb_n (x2 ||| (0 : Int32)) fun v_10 =>
            f_X7_leftOf_4 n M x1 v_10 (x3 + 1)
          ) else (
            nb_n (x2 ||| ((1 : Int32) <<< (x3 &&& 31))) fun v_11 =>
            f_X7_leftOf_4 n M x1 v_11 (x3 + 1)
          )
        ) else (
          nb_n (x2 ||| (0 : Int32)) fun v_7 =>
          f_X7_leftOf_4 n M x1 v_7 (x3 + 1)
        )
      ) else (
        nb_n (x2 ||| (0 : Int32)) fun v_4 =>
        f_X7_leftOf_4 n M x1 v_4 (x3 + 1)
      )
    )
def f_X7_leftOf (M : nb_M) (p0 : Int32) : Option Int32 :=
  f_X7_leftOf_4 nb_F M p0 (0 : Int32) (0 : Int32)
def f_X7_bits_4 : Nat → Int32 → Int32 → Option Int32
  | 0, _, _ => none
  | n + 1, x1, x2 =>
    if x2 = 0 then (
      some x1
    ) else (
      nb_n (x2 &&& (x2 - (1 : Int32))) fun v_2 =>
      f_X7_bits_4 n (x1 + 1) v_2
    )
def f_X7_bits (p0 : Int32) : Option Int32 :=
  f_X7_bits_4 nb_F (0 : Int32) p0
def f_X7_left (M : nb_M) (p0 : Int32) (p1 : Int32) : Option (Int32 × nb_M) :=
  if (f_X7_isPerson M p0) = 0 then (
    nb_p (f_X7_error M (-1000000001 : Int32)) fun r_3 M_3 =>
    some (r_3, M_3)
  ) else (
    if (f_X7_in p1 (0 : Int32) (2 : Int32)) = 0 then (
      nb_p (f_X7_error M (-1000000001 : Int32)) fun r_12 M_12 =>
      some (r_12, M_12)
    ) else (
      if p1 = (2 : Int32) then (
        nb_o (f_X7_dueOf M p0) fun r_11 =>
        some (r_11, M)
      ) else (
        if p1 = 0 then (
          nb_o (f_X7_leftOf M p0) fun r_10 =>
          some (r_10, M)
        ) else (
          nb_o (f_X7_leftOf M p0) fun r_8 =>
          nb_o (f_X7_bits r_8) fun r_9 =>
          some (r_9, M)
        )
      )
    )
  )
def f_X7_findWays_42 : Nat → nb_M → Int32 → Int32 → Int32 → Option nb_M
  | 0, _, _, _, _ => none
  | n + 1, M, x1, x2, x3 =>
    if (M.1 1 (2 : Int32).toNatClampNeg) ≤ x3 then (
      some M
    ) else (
      if ((x2 >>> (x3 &&& 31)) &&& (1 : Int32)) = (1 : Int32) then (
        nb_p (f_X7_riskOf M x3 x1) fun r_6 M_6 =>
        nb_n r_6.toInt64 fun v_7 =>
        nb_n (nb_l M_6 11 (9 : Int32).toNatClampNeg (((M_6.2 11 (9 : Int32).toNatClampNeg) * ((16 : Int64) - v_7)) + ((M_6.2 11 ((9 : Int32) - (1 : Int32)).toNatClampNeg) * v_7))) fun M_10 =>
        nb_n (nb_l M_10 11 (8 : Int32).toNatClampNeg (((M_10.2 11 (8 : Int32).toNatClampNeg) * ((16 : Int64) - v_7)) + ((M_10.2 11 ((8 : Int32) - (1 : Int32)).toNatClampNeg) * v_7))) fun M_13 =>
        nb_n (nb_l M_13 11 (7 : Int32).toNatClampNeg (((M_13.2 11 (7 : Int32).toNatClampNeg) * ((16 : Int64) - v_7)) + ((M_13.2 11 ((7 : Int32) - (1 : Int32)).toNatClampNeg) * v_7))) fun M_16 =>
        nb_n (nb_l M_16 11 (6 : Int32).toNatClampNeg (((M_16.2 11 (6 : Int32).toNatClampNeg) * ((16 : Int64) - v_7)) + ((M_16.2 11 ((6 : Int32) - (1 : Int32)).toNatClampNeg) * v_7))) fun M_19 =>
        nb_n (nb_l M_19 11 (5 : Int32).toNatClampNeg (((M_19.2 11 (5 : Int32).toNatClampNeg) * ((16 : Int64) - v_7)) + ((M_19.2 11 ((5 : Int32) - (1 : Int32)).toNatClampNeg) * v_7))) fun M_22 =>
        nb_n (nb_l M_22 11 (4 : Int32).toNatClampNeg (((M_22.2 11 (4 : Int32).toNatClampNeg) * ((16 : Int64) - v_7)) + ((M_22.2 11 ((4 : Int32) - (1 : Int32)).toNatClampNeg) * v_7))) fun M_25 =>
        nb_n (nb_l M_25 11 (3 : Int32).toNatClampNeg (((M_25.2 11 (3 : Int32).toNatClampNeg) * ((16 : Int64) - v_7)) + ((M_25.2 11 ((3 : Int32) - (1 : Int32)).toNatClampNeg) * v_7))) fun M_28 =>
        nb_n (nb_l M_28 11 (2 : Int32).toNatClampNeg (((M_28.2 11 (2 : Int32).toNatClampNeg) * ((16 : Int64) - v_7)) + ((M_28.2 11 ((2 : Int32) - (1 : Int32)).toNatClampNeg) * v_7))) fun M_31 =>
        nb_n (nb_l M_31 11 (1 : Int32).toNatClampNeg (((M_31.2 11 (1 : Int32).toNatClampNeg) * ((16 : Int64) - v_7)) + ((M_31.2 11 ((1 : Int32) - (1 : Int32)).toNatClampNeg) * v_7))) fun M_34 =>
        nb_n (nb_l M_34 11 (0 : Int32).toNatClampNeg (((M_34.2 11 (0 : Int32).toNatClampNeg) * ((16 : Int64) - v_7)) + (0 : Int64))) fun M_37 =>
        nb_n (nb_l M_37 0 17 ((M_37.2 0 17) * (16 : Int64))) fun M_39 =>
        f_X7_findWays_42 n M_39 x1 x2 (x3 + 1)
      ) else (
        f_X7_findWays_42 n M x1 x2 (x3 + 1)
      )
    )
def f_X7_findWays_8 : Nat → nb_M → Int32 → Int32 → Int32 → Option nb_M
  | 0, _, _, _, _ => none
  | n + 1, M, x1, x2, x3 =>
    if (9 : Int32) < x3 then (
      nb_n (nb_l M 0 17 (1 : Int64)) fun M_3 =>
      f_X7_findWays_42 nb_F M_3 x1 x2 (0 : Int32)
    ) else (
      if x3 = 0 then (
        if x3 < 0 ∨ 10 ≤ x3.toNatClampNeg then none else
        nb_n (nb_l M 11 x3.toNatClampNeg (1 : Int64)) fun M_44 =>
        f_X7_findWays_8 n M_44 x1 x2 (x3 + 1)
      ) else (
        if x3 < 0 ∨ 10 ≤ x3.toNatClampNeg then none else
        nb_n (nb_l M 11 x3.toNatClampNeg (0 : Int64)) fun M_42 =>
        f_X7_findWays_8 n M_42 x1 x2 (x3 + 1)
      )
    )
def f_X7_findWays (M : nb_M) (p0 : Int32) : Option nb_M :=
  nb_o (f_X7_leftOf M p0) fun r_1 =>
  f_X7_findWays_8 nb_F M p0 r_1 (0 : Int32)
def f_X7_partOf_6 : Nat → Int64 → Int64 → Int32 → Int64 → Int64 → Option Int64
  | 0, _, _, _, _, _ => none
  | n + 1, x0, x2, x4, x5, x7 =>
    if (lg_cmp x5 (0 : Int64)) = 0 then (
      if x4 = 0 then (
        if x7 = 0 then none else
        some (x0 / x7)
      ) else (
        if x7 = 0 then none else
        some (x2 / x7)
      )
    ) else (
      if x5 = 0 then none else
      nb_n (x7 - x7 / x5 * x5) fun v_6 =>
      f_X7_partOf_6 n x0 x2 x4 v_6 x5
    )
def f_X7_partOf (p0 : Int64) (p1 : Int64) (p2 : Int32) : Option Int64 :=
  f_X7_partOf_6 nb_F p0 p1 p2 p0 p1
def f_X7_odds (M : nb_M) (p0 : Int32) (p1 : Int32) (p2 : Int32) : Option (Int64 × nb_M) :=
  if (f_X7_isPerson M p0) = 0 then (
    nb_p (f_X7_error M (-1000000001 : Int32)) fun r_3 M_3 =>
    some (r_3.toInt64, M_3)
  ) else (
    if (f_X7_in p1 (0 : Int32) (9 : Int32)) = 0 then (
      nb_p (f_X7_error M (-1000000001 : Int32)) fun r_6 M_6 =>
      some (r_6.toInt64, M_6)
    ) else (
      if (f_X7_in p2 (0 : Int32) (1 : Int32)) = 0 then (
        nb_p (f_X7_error M (-1000000001 : Int32)) fun r_12 M_12 =>
        some (r_12.toInt64, M_12)
      ) else (
        nb_o (f_X7_findWays M p0) fun M_9 =>
        if p1 < 0 ∨ 10 ≤ p1.toNatClampNeg then none else
        nb_o (f_X7_partOf (M_9.2 11 p1.toNatClampNeg) (M_9.2 0 17) p2) fun r_11 =>
        some (r_11, M_9)
      )
    )
  )
def f_X7_through_39 : Nat → nb_M → Int32 → Int64 → Int32 → Option (Int64 × nb_M)
  | 0, _, _, _, _ => none
  | n + 1, M, x2, x3, x5 =>
    if (9 : Int32) < x5 then (
      nb_o (f_X7_partOf x3 (M.2 0 17) x2) fun r_9 =>
      some (r_9, M)
    ) else (
      if x5 < 0 ∨ 10 ≤ x5.toNatClampNeg then none else
      nb_n (x3 + (M.2 11 x5.toNatClampNeg)) fun v_11 =>
      f_X7_through_39 n M x2 v_11 (x5 + 1)
    )
def f_X7_through (M : nb_M) (p0 : Int32) (p1 : Int32) : Option (Int64 × nb_M) :=
  if (f_X7_isPerson M p0) = 0 then (
    nb_p (f_X7_error M (-1000000001 : Int32)) fun r_3 M_3 =>
    some (r_3.toInt64, M_3)
  ) else (
    if (f_X7_in p1 (0 : Int32) (1 : Int32)) = 0 then (
      nb_p (f_X7_error M (-1000000001 : Int32)) fun r_12 M_12 =>
      some (r_12.toInt64, M_12)
    ) else (
      nb_o (f_X7_findWays M p0) fun M_6 =>
      nb_o (f_X7_dueOf M_6 p0) fun r_7 =>
      f_X7_through_39 nb_F M_6 p1 (0 : Int64) r_7
    )
  )
def f_X7_safest_33 : Nat → nb_M → Int32 → Int32 → Int32 → Int32 → Int32 → Option (Int32 × nb_M)
  | 0, _, _, _, _, _, _ => none
  | n + 1, M, x1, x2, x3, x4, x5 =>
    if (M.1 1 (3 : Int32).toNatClampNeg) ≤ x5 then (
      if x2 = 0 then (
        some (x3, M)
      ) else (
        some (x4, M)
      )
    ) else (
      nb_p (f_X7_riskOf M x1 x5) fun r_8 M_8 =>
      if x4 ≤ r_8 then (
        if x4 ≤ r_8 then (
          f_X7_safest_33 n M_8 x1 x2 x3 x4 (x5 + 1)
        ) else (
          f_X7_safest_33 n M_8 x1 x2 x3 r_8 (x5 + 1)
        )
      ) else (
        if x4 ≤ r_8 then (
          f_X7_safest_33 n M_8 x1 x2 x5 x4 (x5 + 1)
        ) else (
          f_X7_safest_33 n M_8 x1 x2 x5 r_8 (x5 + 1)
        )
      )
    )
def f_X7_safest (M : nb_M) (p0 : Int32) (p1 : Int32) : Option (Int32 × nb_M) :=
  if (f_X7_isPiece M p0) = 0 then (
    nb_p (f_X7_error M (-1000000001 : Int32)) fun r_3 M_3 =>
    some (r_3, M_3)
  ) else (
    if (f_X7_in p1 (0 : Int32) (1 : Int32)) = 0 then (
      nb_p (f_X7_error M (-1000000001 : Int32)) fun r_12 M_12 =>
      some (r_12, M_12)
    ) else (
      f_X7_safest_33 nb_F M p0 p1 (0 : Int32) (17 : Int32) (0 : Int32)
    )
  )
def f_X7_saves_81 : Nat → nb_M → Int32 → Int32 → Int32 → Int32 → Int32 → Option (Int32 × nb_M)
  | 0, _, _, _, _, _, _ => none
  | n + 1, M, x2, x4, x5, x6, x7 =>
    if x4 ≤ x7 then (
      if x2 = 0 then (
        some (x4, M)
      ) else (
        some (x5, M)
      )
    ) else (
      nb_n (x5 ||| (x6 &&& (-x6))) fun v_15 =>
      nb_n (x6 &&& (x6 - (1 : Int32))) fun v_16 =>
      f_X7_saves_81 n M x2 x4 v_15 v_16 (x7 + 1)
    )
def f_X7_saves (M : nb_M) (p0 : Int32) (p1 : Int32) : Option (Int32 × nb_M) :=
  if (f_X7_isPerson M p0) = 0 then (
    nb_p (f_X7_error M (-1000000001 : Int32)) fun r_3 M_3 =>
    some (r_3, M_3)
  ) else (
    if (f_X7_in p1 (0 : Int32) (1 : Int32)) = 0 then (
      nb_p (f_X7_error M (-1000000001 : Int32)) fun r_18 M_18 =>
      some (r_18, M_18)
    ) else (
      nb_o (f_X7_isThrough M p0) fun r_6 =>
      if r_6 = 0 then (
        nb_o (f_X7_leftOf M p0) fun r_8 =>
        nb_o (f_X7_bits r_8) fun r_9 =>
        nb_o (f_X7_dueOf M p0) fun r_10 =>
        nb_n ((r_9 - r_10) + (1 : Int32)) fun v_11 =>
        if 0 ≤ v_11 then (
          f_X7_saves_81 nb_F M p1 v_11 (0 : Int32) r_8 (0 : Int32)
        ) else (
          f_X7_saves_81 nb_F M p1 (0 : Int32) (0 : Int32) r_8 (0 : Int32)
        )
      ) else (
        nb_p (f_X7_error M (-1000000003 : Int32)) fun r_17 M_17 =>
        some (r_17, M_17)
      )
    )
  )
def f_X7_counts_17 : Nat → nb_M → Int32 → Int32 → Option (Int32 × nb_M)
  | 0, _, _, _ => none
  | n + 1, M, x1, x2 =>
    if (60 : Int32) < x2 then (
      nb_p (f_X7_error M (-1000000002 : Int32)) fun r_4 M_4 =>
      some (r_4, M_4)
    ) else (
      nb_o (f_X7_doesCountOn M x1 ((M.1 1 (0 : Int32).toNatClampNeg) + x2)) fun r_5 =>
      if r_5 = 0 then (
        f_X7_counts_17 n M x1 (x2 + 1)
      ) else (
        some (x2, M)
      )
    )
def f_X7_counts (M : nb_M) (p0 : Int32) : Option (Int32 × nb_M) :=
  if (f_X7_isPiece M p0) = 0 then (
    nb_p (f_X7_error M (-1000000001 : Int32)) fun r_7 M_7 =>
    some (r_7, M_7)
  ) else (
    f_X7_counts_17 nb_F M p0 (0 : Int32)
  )
def f_X7_isSheet (p0 : Int32) : Int32 :=
  f_X7_in p0 (0 : Int32) (3 : Int32)
theorem z_X7_isSheet (p0 : Int32) : f_X7_isSheet p0 = 0 ∨ f_X7_isSheet p0 = 1 := by
  unfold f_X7_isSheet
  exact z_X7_in p0 (0 : Int32) (3 : Int32)
def f_X7_isSo_24 : Nat → nb_M → Int32 → Int32 → Int32 → Int32 → Option (Int32 × nb_M)
  | 0, _, _, _, _, _ => none
  | n + 1, M, x1, x2, x3, x4 =>
    if x1 < 0 ∨ 4 ≤ x1.toNatClampNeg then none else
    if (M.1 5 x1.toNatClampNeg) ≤ x4 then (
      if ¬ (x3 = 0 ∨ x3 = 1) then none else
      some (x3, M)
    ) else (
      if x3 = 0 then (
        if ¬ (x3 = 0 ∨ x3 = 1) then none else
        some (x3, M)
      ) else (
        if ((24 : Int32) * x1) + x4 < 0 ∨ 96 ≤ (((24 : Int32) * x1) + x4).toNatClampNeg then none else
        nb_p (f_X7_riskBy M x4 x2) fun r_9 M_9 =>
        if (M.1 6 (((24 : Int32) * x1) + x4).toNatClampNeg) = r_9 then (
          f_X7_isSo_24 n M_9 x1 x2 (1 : Int32) (x4 + 1)
        ) else (
          f_X7_isSo_24 n M_9 x1 x2 (0 : Int32) (x4 + 1)
        )
      )
    )
def f_X7_isSo (M : nb_M) (p0 : Int32) (p1 : Int32) : Option (Int32 × nb_M) :=
  if p0 < 0 ∨ 4 ≤ p0.toNatClampNeg then none else
  if (M.1 1 (2 : Int32).toNatClampNeg) < (M.1 5 p0.toNatClampNeg) then (
    f_X7_isSo_24 nb_F M p0 p1 (0 : Int32) (0 : Int32)
  ) else (
    f_X7_isSo_24 nb_F M p0 p1 (1 : Int32) (0 : Int32)
  )
def f_X7_fits_57 : Nat → nb_M → Int32 → Int32 → Int32 → Int32 → Int32 → Option (Int32 × nb_M)
  | 0, _, _, _, _, _, _ => none
  | n + 1, M, x1, x3, x4, x5, x6 =>
    if x6 < 0 then (
      if x3 = 0 then (
        some (x4, M)
      ) else (
        if 0 ≤ x5 then (
          some (x5, M)
        ) else (
          nb_p (f_X7_error M (-1000000002 : Int32)) fun r_14 M_14 =>
          some (r_14, M_14)
        )
      )
    ) else (
      nb_p (f_X7_isSo M x1 x6) fun r_15 M_15 =>
      if r_15 = 0 then (
        nb_n (x4 ||| (0 : Int32)) fun v_17 =>
        f_X7_fits_57 n M_15 x1 x3 v_17 x5 (x6 + (-1))
      ) else (
        nb_n (x4 ||| ((1 : Int32) <<< (x6 &&& 31))) fun v_19 =>
        if r_15 = 0 then (
          f_X7_fits_57 n M_15 x1 x3 v_19 x5 (x6 + (-1))
        ) else (
          f_X7_fits_57 n M_15 x1 x3 v_19 x6 (x6 + (-1))
        )
      )
    )
def f_X7_fits (M : nb_M) (p0 : Int32) (p1 : Int32) (p2 : Int32) : Option (Int32 × nb_M) :=
  if (f_X7_isSheet p0) = 0 then (
    nb_p (f_X7_error M (-1000000001 : Int32)) fun r_3 M_3 =>
    some (r_3, M_3)
  ) else (
    if (f_X7_isPerson M p1) = 0 then (
      nb_p (f_X7_error M (-1000000001 : Int32)) fun r_6 M_6 =>
      some (r_6, M_6)
    ) else (
      if (f_X7_in p2 (0 : Int32) (1 : Int32)) = 0 then (
        nb_p (f_X7_error M (-1000000001 : Int32)) fun r_22 M_22 =>
        some (r_22, M_22)
      ) else (
        if p0 < 0 ∨ 4 ≤ p0.toNatClampNeg then none else
        if (M.1 4 p0.toNatClampNeg) = 0 then (
          nb_p (f_X7_error M (-1000000002 : Int32)) fun r_21 M_21 =>
          some (r_21, M_21)
        ) else (
          f_X7_fits_57 nb_F M p0 p2 (0 : Int32) (-1 : Int32) (9 : Int32)
        )
      )
    )
  )
def f_X7_begins (M : nb_M) (p0 : Int32) : Option nb_M :=
  if (30 : Int32) ≤ (M.1 0 19) then (
    some M
  ) else (
    if M.1 0 19 < 0 ∨ 30 ≤ (M.1 0 19).toNatClampNeg then none else
    nb_n (nb_i M 12 (M.1 0 19).toNatClampNeg p0) fun M_3 =>
    nb_n (nb_i M_3 0 19 ((M_3.1 0 19) + (1 : Int32))) fun M_4 =>
    some M_4
  )
def f_X7_plainParts (M : nb_M) (p0 : Int32) (p1 : Int32) : Option (Int32 × nb_M) :=
  nb_o (f_X7_begins M (13 : Int32)) fun M_1 =>
  nb_o (f_X7_of M_1 p0 (1 : Int32)) fun r_2 =>
  nb_n (r_2 - p0) fun v_3 =>
  if v_3 = 0 then (
    nb_n (nb_i M_1 0 20 (1 : Int32)) fun M_8 =>
    if (M_8.1 0 20) = 0 then (
      if v_3 = 0 then none else
      some (p1 / v_3, M_8)
    ) else (
      some ((0 : Int32), M_8)
    )
  ) else (
    nb_n (nb_i M_1 0 20 (0 : Int32)) fun M_5 =>
    if (M_5.1 0 20) = 0 then (
      if v_3 = 0 then none else
      some (p1 / v_3, M_5)
    ) else (
      some ((0 : Int32), M_5)
    )
  )
def f_X7_plainRings (M : nb_M) (p0 : Int32) (p1 : Int32) : Option (Int32 × nb_M) :=
  nb_o (f_X7_begins M (10 : Int32)) fun M_1 =>
  some (p1 + p0, M_1)
def f_X7_cupRings (M : nb_M) (p0 : Int32) (p1 : Int32) : Option (Int32 × nb_M) :=
  nb_o (f_X7_begins M (20 : Int32)) fun M_1 =>
  nb_p (f_X7_plainRings M_1 p0 p1) fun r_2 M_2 =>
  some (r_2 - (4 : Int32), M_2)
def f_X7_rings (M : nb_M) (p0 : Int32) (p1 : Int32) : Option (Int32 × nb_M) :=
  nb_o (f_X7_of M p0 (0 : Int32)) fun r_1 =>
  if r_1 = 1 then (
    nb_p (f_X7_cupRings M p0 p1) fun r_3 M_3 =>
    some (r_3, M_3)
  ) else (
    if r_1 = 4 then (
      nb_o (f_X7_begins M (50 : Int32)) fun M_5 =>
      nb_p (f_X7_cupRings M_5 p0 p1) fun r_6 M_6 =>
      some (r_6 * (3 : Int32), M_6)
    ) else (
      if r_1 = 6 then (
        nb_o (f_X7_begins M (70 : Int32)) fun M_8 =>
        some ((9 : Int32), M_8)
      ) else (
        nb_p (f_X7_plainRings M p0 p1) fun r_9 M_9 =>
        some (r_9, M_9)
      )
    )
  )
def f_X7_plainSlips (M : nb_M) (p0 : Int32) (p1 : Int32) : Option (Int32 × nb_M) :=
  nb_o (f_X7_begins M (11 : Int32)) fun M_1 =>
  nb_p (f_X7_rings M_1 p0 p1) fun r_2 M_2 =>
  some (r_2 * (2 : Int32), M_2)
def f_X7_boatSlips (M : nb_M) (p0 : Int32) (p1 : Int32) : Option (Int32 × nb_M) :=
  nb_o (f_X7_begins M (30 : Int32)) fun M_1 =>
  nb_p (f_X7_plainSlips M_1 p0 p1) fun r_2 M_2 =>
  some (-r_2, M_2)
def f_X7_slips (M : nb_M) (p0 : Int32) (p1 : Int32) : Option (Int32 × nb_M) :=
  nb_o (f_X7_of M p0 (0 : Int32)) fun r_1 =>
  if r_1 = 2 then (
    nb_p (f_X7_boatSlips M p0 p1) fun r_3 M_3 =>
    some (r_3, M_3)
  ) else (
    if r_1 = 5 then (
      nb_o (f_X7_begins M (60 : Int32)) fun M_5 =>
      nb_p (f_X7_boatSlips M_5 p0 (p1 + (1 : Int32))) fun r_6 M_6 =>
      some (r_6, M_6)
    ) else (
      if r_1 = 6 then (
        nb_o (f_X7_begins M (71 : Int32)) fun M_8 =>
        nb_p (f_X7_plainSlips M_8 p0 p1) fun r_9 M_9 =>
        nb_o (f_X7_of M_9 p0 (1 : Int32)) fun r_10 =>
        some (r_9 + r_10, M_9)
      ) else (
        nb_p (f_X7_plainSlips M p0 p1) fun r_11 M_11 =>
        some (r_11, M_11)
      )
    )
  )
def f_X7_partsBy_20 (M : nb_M) (x1 : Int32) (x2 : Int32) : Option (Int32 × nb_M) :=
  nb_o (f_X7_begins M (21 : Int32)) fun M_3 =>
  nb_p (f_X7_plainParts M_3 x1 x2) fun r_4 M_4 =>
  if (M_4.1 0 20) = 0 then (
    nb_p (f_X7_slips M_4 x1 (1 : Int32)) fun r_6 M_6 =>
    some (r_4 + r_6, M_6)
  ) else (
    some ((0 : Int32), M_4)
  )
def f_X7_partsBy (M : nb_M) (p0 : Int32) (p1 : Int32) : Option (Int32 × nb_M) :=
  nb_o (f_X7_of M p0 (0 : Int32)) fun r_1 =>
  if r_1 = (1 : Int32) then (
    f_X7_partsBy_20 M p0 p1
  ) else (
    nb_o (f_X7_of M p0 (0 : Int32)) fun r_7 =>
    if r_7 = (4 : Int32) then (
      f_X7_partsBy_20 M p0 p1
    ) else (
      nb_p (f_X7_plainParts M p0 p1) fun r_9 M_9 =>
      some (r_9, M_9)
    )
  )
def f_X7_plainCracks (M : nb_M) (p0 : Int32) (p1 : Int32) : Option (Int32 × nb_M) :=
  nb_o (f_X7_begins M (12 : Int32)) fun M_1 =>
  nb_p (f_X7_slips M_1 p0 p1) fun r_2 M_2 =>
  nb_o (f_X7_of M_2 p0 (1 : Int32)) fun r_3 =>
  some (r_2 - r_3, M_2)
def f_X7_cracks (M : nb_M) (p0 : Int32) (p1 : Int32) : Option (Int32 × nb_M) :=
  nb_o (f_X7_of M p0 (0 : Int32)) fun r_1 =>
  if r_1 = 3 then (
    nb_o (f_X7_begins M (40 : Int32)) fun M_3 =>
    nb_p (f_X7_plainCracks M_3 p0 (p1 / (2 : Int32))) fun r_4 M_4 =>
    some (r_4, M_4)
  ) else (
    if r_1 = 4 then (
      nb_o (f_X7_begins M (51 : Int32)) fun M_6 =>
      nb_p (f_X7_plainCracks M_6 p0 p1) fun r_7 M_7 =>
      some (r_7 ^^^ p0, M_7)
    ) else (
      nb_p (f_X7_plainCracks M p0 p1) fun r_8 M_8 =>
      some (r_8, M_8)
    )
  )
def f_X7_voice (M : nb_M) (p0 : Int32) (p1 : Int32) (p2 : Int32) : Option (Int32 × nb_M) :=
  if (f_X7_isPiece M p0) = 0 then (
    nb_p (f_X7_error M (-1000000001 : Int32)) fun r_3 M_3 =>
    some (r_3, M_3)
  ) else (
    if (f_X7_in p1 (0 : Int32) (3 : Int32)) = 0 then (
      nb_p (f_X7_error M (-1000000001 : Int32)) fun r_23 M_23 =>
      some (r_23, M_23)
    ) else (
      nb_n (nb_i M 0 19 (0 : Int32)) fun M_6 =>
      nb_n (nb_i M_6 0 20 (0 : Int32)) fun M_7 =>
      if p1 = 0 then (
        nb_p (f_X7_rings M_7 p0 p2) fun r_20 M_20 =>
        if (M_20.1 0 20) = 0 then (
          some (r_20, M_20)
        ) else (
          nb_p (f_X7_error M_20 (-1000000006 : Int32)) fun r_22 M_22 =>
          some (r_22, M_22)
        )
      ) else (
        if p1 = (1 : Int32) then (
          nb_p (f_X7_slips M_7 p0 p2) fun r_17 M_17 =>
          if (M_17.1 0 20) = 0 then (
            some (r_17, M_17)
          ) else (
            nb_p (f_X7_error M_17 (-1000000006 : Int32)) fun r_19 M_19 =>
            some (r_19, M_19)
          )
        ) else (
          if p1 = (2 : Int32) then (
            nb_p (f_X7_cracks M_7 p0 p2) fun r_14 M_14 =>
            if (M_14.1 0 20) = 0 then (
              some (r_14, M_14)
            ) else (
              nb_p (f_X7_error M_14 (-1000000006 : Int32)) fun r_16 M_16 =>
              some (r_16, M_16)
            )
          ) else (
            nb_p (f_X7_partsBy M_7 p0 p2) fun r_11 M_11 =>
            if (M_11.1 0 20) = 0 then (
              some (r_11, M_11)
            ) else (
              nb_p (f_X7_error M_11 (-1000000006 : Int32)) fun r_13 M_13 =>
              some (r_13, M_13)
            )
          )
        )
      )
    )
  )
def f_X7_body (M : nb_M) (p0 : Int32) : Option (Int32 × nb_M) :=
  if (f_X7_in p0 (0 : Int32) ((M.1 0 19) - (1 : Int32))) = 0 then (
    nb_p (f_X7_error M (-1000000002 : Int32)) fun r_3 M_3 =>
    some (r_3, M_3)
  ) else (
    if p0 < 0 ∨ 30 ≤ p0.toNatClampNeg then none else
    some (M.1 12 p0.toNatClampNeg, M)
  )
def f_X7_sheet_93 : Nat → nb_M → Int32 → Int32 → Option (Int32 × nb_M)
  | 0, _, _, _ => none
  | n + 1, M, x1, x4 =>
    if (24 : Int32) ≤ x4 then (
      some ((1 : Int32), M)
    ) else (
      if ((24 : Int32) * x1) + x4 < 0 ∨ 96 ≤ (((24 : Int32) * x1) + x4).toNatClampNeg then none else
      nb_n (nb_i M 6 (((24 : Int32) * x1) + x4).toNatClampNeg (0 : Int32)) fun M_13 =>
      f_X7_sheet_93 n M_13 x1 (x4 + 1)
    )
def f_X7_sheet_68 (M : nb_M) (x1 : Int32) (x2 : Int32) (x3 : Int32) : Option (Int32 × nb_M) :=
  if x1 < 0 ∨ 4 ≤ x1.toNatClampNeg then none else
  nb_n (nb_i M 4 x1.toNatClampNeg x2) fun M_8 =>
  if x2 = 0 then (
    nb_n (nb_i M_8 5 x1.toNatClampNeg (0 : Int32)) fun M_14 =>
    f_X7_sheet_93 nb_F M_14 x1 (0 : Int32)
  ) else (
    nb_n (nb_i M_8 5 x1.toNatClampNeg x3) fun M_10 =>
    f_X7_sheet_93 nb_F M_10 x1 (0 : Int32)
  )
def f_X7_sheet_51 (M : nb_M) (x1 : Int32) (x2 : Int32) (x3 : Int32) : Option (Int32 × nb_M) :=
  if x2 ≤ 0 then (
    f_X7_sheet_68 M x1 x2 x3
  ) else (
    if x3 ≤ (24 : Int32) then (
      f_X7_sheet_68 M x1 x2 x3
    ) else (
      nb_p (f_X7_error M (-1000000001 : Int32)) fun r_16 M_16 =>
      some (r_16, M_16)
    )
  )
def f_X7_sheet_36 (M : nb_M) (x1 : Int32) (x2 : Int32) (x3 : Int32) : Option (Int32 × nb_M) :=
  if x2 ≤ 0 then (
    f_X7_sheet_51 M x1 x2 x3
  ) else (
    if 0 ≤ x3 then (
      f_X7_sheet_51 M x1 x2 x3
    ) else (
      nb_p (f_X7_error M (-1000000003 : Int32)) fun r_18 M_18 =>
      some (r_18, M_18)
    )
  )
def f_X7_sheet (M : nb_M) (p0 : Int32) (p1 : Int32) (p2 : Int32) : Option (Int32 × nb_M) :=
  if (f_X7_isSheet p0) = 0 then (
    nb_p (f_X7_error M (-1000000001 : Int32)) fun r_3 M_3 =>
    some (r_3, M_3)
  ) else (
    if p1 = 0 then (
      f_X7_sheet_36 M p0 p1 p2
    ) else (
      if p1 = (8 : Int32) then (
        f_X7_sheet_36 M p0 p1 p2
      ) else (
        if p1 = (16 : Int32) then (
          f_X7_sheet_36 M p0 p1 p2
        ) else (
          if p1 = (32 : Int32) then (
            f_X7_sheet_36 M p0 p1 p2
          ) else (
            nb_p (f_X7_error M (-1000000001 : Int32)) fun r_22 M_22 =>
            some (r_22, M_22)
          )
        )
      )
    )
  )
def f_X7_notThere (M : nb_M) (p0 : Int32) : Option Int32 :=
  if (f_X7_isSheet p0) = 0 then (
    some (-1000000001 : Int32)
  ) else (
    if p0 < 0 ∨ 4 ≤ p0.toNatClampNeg then none else
    if (M.1 4 p0.toNatClampNeg) = 0 then (
      some (-1000000002 : Int32)
    ) else (
      some (0 : Int32)
    )
  )
def f_X7_put_33 (M : nb_M) (x1 : Int32) (x2 : Int32) (x3 : Int32) (x4 : Int32) : Option (Int32 × nb_M) :=
  if x4 = 0 then (
    if x1 < 0 ∨ 4 ≤ x1.toNatClampNeg then none else
    if (M.1 4 x1.toNatClampNeg) = (8 : Int32) then (
      if ((24 : Int32) * x1) + x2 < 0 ∨ 96 ≤ (((24 : Int32) * x1) + x2).toNatClampNeg then none else
      nb_n (nb_i M 6 (((24 : Int32) * x1) + x2).toNatClampNeg x3.toInt8.toInt32) fun M_12 =>
      some ((1 : Int32), M_12)
    ) else (
      if (M.1 4 x1.toNatClampNeg) = (16 : Int32) then (
        if ((24 : Int32) * x1) + x2 < 0 ∨ 96 ≤ (((24 : Int32) * x1) + x2).toNatClampNeg then none else
        nb_n (nb_i M 6 (((24 : Int32) * x1) + x2).toNatClampNeg x3.toInt16.toInt32) fun M_10 =>
        some ((1 : Int32), M_10)
      ) else (
        if ((24 : Int32) * x1) + x2 < 0 ∨ 96 ≤ (((24 : Int32) * x1) + x2).toNatClampNeg then none else
        nb_n (nb_i M 6 (((24 : Int32) * x1) + x2).toNatClampNeg x3) fun M_8 =>
        some ((1 : Int32), M_8)
      )
    )
  ) else (
    nb_p (f_X7_error M x4) fun r_13 M_13 =>
    some (r_13, M_13)
  )
def f_X7_put (M : nb_M) (p0 : Int32) (p1 : Int32) (p2 : Int32) : Option (Int32 × nb_M) :=
  nb_o (f_X7_notThere M p0) fun r_1 =>
  if r_1 = 0 then (
    if p0 < 0 ∨ 4 ≤ p0.toNatClampNeg then none else
    if (f_X7_in p1 (0 : Int32) ((M.1 5 p0.toNatClampNeg) - (1 : Int32))) = 0 then (
      nb_p (f_X7_error M (-1000000001 : Int32)) fun r_18 M_18 =>
      some (r_18, M_18)
    ) else (
      f_X7_put_33 M p0 p1 p2 r_1
    )
  ) else (
    f_X7_put_33 M p0 p1 p2 r_1
  )
def f_X7_notMoved (M : nb_M) (p0 : Int32) (p1 : Int32) (p2 : Int32) (p3 : Int32) (p4 : Int32) : Option Int32 :=
  if (f_X7_isSheet p0) = 0 then (
    some (-1000000001 : Int32)
  ) else (
    if (f_X7_isSheet p2) = 0 then (
      some (-1000000001 : Int32)
    ) else (
      if p0 < 0 ∨ 4 ≤ p0.toNatClampNeg then none else
      if (M.1 4 p0.toNatClampNeg) = 0 then (
        some (-1000000002 : Int32)
      ) else (
        if p2 < 0 ∨ 4 ≤ p2.toNatClampNeg then none else
        if (M.1 4 p2.toNatClampNeg) = 0 then (
          some (-1000000002 : Int32)
        ) else (
          if (M.1 4 p0.toNatClampNeg) = (M.1 4 p2.toNatClampNeg) then (
            if p4 < 0 then (
              some (-1000000001 : Int32)
            ) else (
              if p1 < 0 then (
                some (-1000000001 : Int32)
              ) else (
                if p3 < 0 then (
                  some (-1000000001 : Int32)
                ) else (
                  if ((M.1 5 p0.toNatClampNeg) - p1) < p4 then (
                    some (-1000000001 : Int32)
                  ) else (
                    if ((M.1 5 p2.toNatClampNeg) - p3) < p4 then (
                      some (-1000000001 : Int32)
                    ) else (
                      some (0 : Int32)
                    )
                  )
                )
              )
            )
          ) else (
            some (-1000000005 : Int32)
          )
        )
      )
    )
  )
def f_X7_move_28 : Nat → nb_M → Int32 → Int32 → Int32 → Int32 → Int32 → Int32 → Option (Int32 × nb_M)
  | 0, _, _, _, _, _, _, _ => none
  | n + 1, M, x1, x2, x3, x4, x5, x7 =>
    if x5 ≤ x7 then (
      some (x5, M)
    ) else (
      if x4 ≤ x2 then (
        if (((24 : Int32) * x1) + x2) + x7 < 0 ∨ 96 ≤ ((((24 : Int32) * x1) + x2) + x7).toNatClampNeg then none else
        if (((24 : Int32) * x3) + x4) + x7 < 0 ∨ 96 ≤ ((((24 : Int32) * x3) + x4) + x7).toNatClampNeg then none else
        nb_n (nb_i M 6 ((((24 : Int32) * x3) + x4) + x7).toNatClampNeg (M.1 6 ((((24 : Int32) * x1) + x2) + x7).toNatClampNeg)) fun M_7 =>
        f_X7_move_28 n M_7 x1 x2 x3 x4 x5 (x7 + 1)
      ) else (
        nb_n ((x5 - (1 : Int32)) - x7) fun v_8 =>
        if (((24 : Int32) * x1) + x2) + v_8 < 0 ∨ 96 ≤ ((((24 : Int32) * x1) + x2) + v_8).toNatClampNeg then none else
        if (((24 : Int32) * x3) + x4) + v_8 < 0 ∨ 96 ≤ ((((24 : Int32) * x3) + x4) + v_8).toNatClampNeg then none else
        nb_n (nb_i M 6 ((((24 : Int32) * x3) + x4) + v_8).toNatClampNeg (M.1 6 ((((24 : Int32) * x1) + x2) + v_8).toNatClampNeg)) fun M_11 =>
        f_X7_move_28 n M_11 x1 x2 x3 x4 x5 (x7 + 1)
      )
    )
def f_X7_move (M : nb_M) (p0 : Int32) (p1 : Int32) (p2 : Int32) (p3 : Int32) (p4 : Int32) : Option (Int32 × nb_M) :=
  nb_o (f_X7_notMoved M p0 p1 p2 p3 p4) fun r_1 =>
  if r_1 = 0 then (
    f_X7_move_28 nb_F M p0 p1 p2 p3 p4 (0 : Int32)
  ) else (
    nb_p (f_X7_error M r_1) fun r_12 M_12 =>
    some (r_12, M_12)
  )
def f_X7_cares_18 : Nat → nb_M → Int32 → Int32 → Option (Int32 × nb_M)
  | 0, _, _, _ => none
  | n + 1, M, x1, x3 =>
    if x1 < 0 ∨ 4 ≤ x1.toNatClampNeg then none else
    if (M.1 5 x1.toNatClampNeg) ≤ x3 then (
      some (x3, M)
    ) else (
      if (M.1 1 (3 : Int32).toNatClampNeg) ≤ x3 then (
        some (x3, M)
      ) else (
        if ((24 : Int32) * x1) + x3 < 0 ∨ 96 ≤ (((24 : Int32) * x1) + x3).toNatClampNeg then none else
        if (f_X7_in (M.1 6 (((24 : Int32) * x1) + x3).toNatClampNeg) (0 : Int32) (9 : Int32)) = 0 then (
          some (x3, M)
        ) else (
          if (6 : Int32) + ((3 : Int32) * x3) < 0 ∨ 383 ≤ ((6 : Int32) + ((3 : Int32) * x3)).toNatClampNeg then none else
          nb_n (nb_i M 1 ((6 : Int32) + ((3 : Int32) * x3)).toNatClampNeg (M.1 6 (((24 : Int32) * x1) + x3).toNatClampNeg)) fun M_10 =>
          f_X7_cares_18 n M_10 x1 (x3 + 1)
        )
      )
    )
def f_X7_cares (M : nb_M) (p0 : Int32) : Option (Int32 × nb_M) :=
  nb_o (f_X7_notThere M p0) fun r_1 =>
  if r_1 = 0 then (
    f_X7_cares_18 nb_F M p0 (0 : Int32)
  ) else (
    nb_p (f_X7_error M r_1) fun r_11 M_11 =>
    some (r_11, M_11)
  )
def f_X7_judge_18 : Nat → nb_M → Int32 → Int32 → Option (Int32 × nb_M)
  | 0, _, _, _ => none
  | n + 1, M, x1, x3 =>
    if x1 < 0 ∨ 4 ≤ x1.toNatClampNeg then none else
    if (M.1 5 x1.toNatClampNeg) ≤ x3 then (
      some (x3, M)
    ) else (
      if (M.1 1 (2 : Int32).toNatClampNeg) ≤ x3 then (
        some (x3, M)
      ) else (
        if ((24 : Int32) * x1) + x3 < 0 ∨ 96 ≤ (((24 : Int32) * x1) + x3).toNatClampNeg then none else
        nb_o (f_X7_of M x3 (3 : Int32)) fun r_7 =>
        if (M.1 6 (((24 : Int32) * x1) + x3).toNatClampNeg) = r_7 then (
          f_X7_judge_18 n M x1 (x3 + 1)
        ) else (
          some (x3, M)
        )
      )
    )
def f_X7_judge (M : nb_M) (p0 : Int32) : Option (Int32 × nb_M) :=
  nb_o (f_X7_notThere M p0) fun r_1 =>
  if r_1 = 0 then (
    f_X7_judge_18 nb_F M p0 (0 : Int32)
  ) else (
    nb_p (f_X7_error M r_1) fun r_9 M_9 =>
    some (r_9, M_9)
  )
def f_X7_copyAll_53_54_2 : Nat → nb_M → Int32 → Option nb_M
  | 0, _, _ => none
  | n + 1, M, x2 =>
    if (383 : Int32) ≤ x2 then (
      some M
    ) else (
      if x2 < 0 ∨ 383 ≤ x2.toNatClampNeg then none else
      nb_n (nb_i M 2 x2.toNatClampNeg (M.1 1 x2.toNatClampNeg)) fun M_3 =>
      f_X7_copyAll_53_54_2 n M_3 (x2 + 1)
    )
def f_X7_copyAll_53_54 (M : nb_M) : Option nb_M :=
  f_X7_copyAll_53_54_2 nb_F M (0 : Int32)
def f_X7_image (M : nb_M) : Option (Int32 × nb_M) :=
  nb_o (f_X7_copyAll_53_54 M) fun M_1 =>
  nb_n (nb_i M_1 0 2 ((M_1.1 0 2) + (1 : Int32))) fun M_2 =>
  some (M_2.1 0 2, M_2)
def f_X7_copyAll_54_53_2 : Nat → nb_M → Int32 → Option nb_M
  | 0, _, _ => none
  | n + 1, M, x2 =>
    if (383 : Int32) ≤ x2 then (
      some M
    ) else (
      if x2 < 0 ∨ 383 ≤ x2.toNatClampNeg then none else
      nb_n (nb_i M 1 x2.toNatClampNeg (M.1 2 x2.toNatClampNeg)) fun M_3 =>
      f_X7_copyAll_54_53_2 n M_3 (x2 + 1)
    )
def f_X7_copyAll_54_53 (M : nb_M) : Option nb_M :=
  f_X7_copyAll_54_53_2 nb_F M (0 : Int32)
def f_X7_restore (M : nb_M) : Option (Int32 × nb_M) :=
  if (M.1 0 2) = 0 then (
    nb_p (f_X7_error M (-1000000002 : Int32)) fun r_3 M_3 =>
    some (r_3, M_3)
  ) else (
    nb_o (f_X7_copyAll_54_53 M) fun M_2 =>
    some (M_2.1 1 (0 : Int32).toNatClampNeg, M_2)
  )
def f_X7_tell (M : nb_M) (p0 : Int32) : Option (Int32 × nb_M) :=
  if (M.1 1 (5 : Int32).toNatClampNeg) = (24 : Int32) then (
    nb_p (f_X7_error M (-1000000004 : Int32)) fun r_5 M_5 =>
    some (r_5, M_5)
  ) else (
    if (117 : Int32) + (M.1 1 (5 : Int32).toNatClampNeg) < 0 ∨ 383 ≤ ((117 : Int32) + (M.1 1 (5 : Int32).toNatClampNeg)).toNatClampNeg then none else
    nb_n (nb_i M 1 ((117 : Int32) + (M.1 1 (5 : Int32).toNatClampNeg)).toNatClampNeg p0) fun M_3 =>
    nb_n (nb_i M_3 1 (5 : Int32).toNatClampNeg ((M_3.1 1 (5 : Int32).toNatClampNeg) + (1 : Int32))) fun M_4 =>
    some (M_4.1 1 (5 : Int32).toNatClampNeg, M_4)
  )
def f_X7_check_16 : Nat → nb_M → Int32 → Int32 → Option (Int32 × nb_M)
  | 0, _, _, _ => none
  | n + 1, M, x1, x2 =>
    if x1 ≤ x2 then (
      some ((0 : Int32), M)
    ) else (
      if (f_X7_isPerson M x2) = 0 then (
        some ((1 : Int32) + x2, M)
      ) else (
        if (117 : Int32) + x2 < 0 ∨ 383 ≤ ((117 : Int32) + x2).toNatClampNeg then none else
        nb_o (f_X7_about M x2 (2 : Int32)) fun r_7 =>
        if (M.1 1 ((117 : Int32) + x2).toNatClampNeg) = r_7 then (
          f_X7_check_16 n M x1 (x2 + 1)
        ) else (
          some ((1 : Int32) + x2, M)
        )
      )
    )
def f_X7_check (M : nb_M) : Option (Int32 × nb_M) :=
  nb_n (M.1 1 (5 : Int32).toNatClampNeg) fun v_1 =>
  nb_n (nb_i M 1 (5 : Int32).toNatClampNeg (0 : Int32)) fun M_2 =>
  f_X7_check_16 nb_F M_2 v_1 (0 : Int32)
def f_X7_count (M : nb_M) (p0 : Int32) : Option (Int32 × nb_M) :=
  if p0 = 0 then (
    some (M.1 1 (2 : Int32).toNatClampNeg, M)
  ) else (
    if p0 = 1 then (
      some (M.1 1 (3 : Int32).toNatClampNeg, M)
    ) else (
      if p0 = 2 then (
        some (M.1 1 (0 : Int32).toNatClampNeg, M)
      ) else (
        if p0 = 3 then (
          nb_o (f_X7_shards M) fun r_5 =>
          some (r_5, M)
        ) else (
          if p0 = 4 then (
            some (M.1 1 (4 : Int32).toNatClampNeg, M)
          ) else (
            if p0 = 5 then (
              some (M.1 1 (5 : Int32).toNatClampNeg, M)
            ) else (
              if p0 = 6 then (
                some (M.1 0 19, M)
              ) else (
                if p0 = 7 then (
                  some (M.1 1 (1 : Int32).toNatClampNeg, M)
                ) else (
                  nb_p (f_X7_error M (-1000000001 : Int32)) fun r_10 M_10 =>
                  some (r_10, M_10)
                )
              )
            )
          )
        )
      )
    )
  )
def f_X7_told (M : nb_M) (p0 : Int32) : Option (Int32 × nb_M) :=
  if (f_X7_in p0 (1 : Int32) (6 : Int32)) = 0 then (
    nb_p (f_X7_error M (-1000000001 : Int32)) fun r_3 M_3 =>
    some (r_3, M_3)
  ) else (
    if p0 < 0 ∨ 7 ≤ p0.toNatClampNeg then none else
    some (M.1 3 p0.toNatClampNeg, M)
  )
