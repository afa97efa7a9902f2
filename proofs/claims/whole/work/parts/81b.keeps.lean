/-! what is asked leaves what there is as good as it was -/
theorem a_thing {A : St} (hI : AI A) (p1 p2 : Int32) : AI (S_thing A p1 p2).2 := by
  unfold S_thing
  repeat' split
  all_goals first | exact hI | exact rf_AI hI _
theorem a_side {A : St} (hI : AI A) (p1 p2 : Int32) : AI (S_side A p1 p2).2 := by
  unfold S_side
  repeat' split
  all_goals first | exact hI | exact rf_AI hI _
theorem a_floorThen {A : St} (hI : AI A) (p1 p2 : Int32) : AI (S_floorThen A p1 p2).2 := by
  unfold S_floorThen
  repeat' split
  all_goals first | exact hI | exact rf_AI hI _
theorem a_weighsThen {A : St} (hI : AI A) (p1 p2 : Int32) : AI (S_weighsThen A p1 p2).2 := by
  unfold S_weighsThen
  repeat' split
  all_goals first | exact hI | exact rf_AI hI _
theorem a_pull {A : St} (hI : AI A) (p1 : Int32) : AI (S_pull A p1).2 := by
  unfold S_pull
  repeat' split
  all_goals first | exact hI | exact rf_AI hI _
theorem a_comes {A : St} (hI : AI A) (p1 p2 : Int32) : AI (S_comes A p1 p2).2 := by
  unfold S_comes
  repeat' split
  all_goals first | exact hI | exact rf_AI hI _
theorem a_strikes {A : St} (hI : AI A) (p1 : Int32) : AI (S_strikes A p1).2 := by
  unfold S_strikes
  repeat' split
  all_goals first | exact hI | exact rf_AI hI _
theorem a_door {A : St} (hI : AI A) (p1 : Int32) : AI (S_door A p1).2 := by
  unfold S_door
  repeat' split
  all_goals first | exact hI | exact rf_AI hI _
theorem a_level {A : St} (hI : AI A) (p1 : Int32) : AI (S_level A p1).2 := by
  unfold S_level
  repeat' split
  all_goals first | exact hI | exact rf_AI hI _
theorem a_take {A : St} (hI : AI A) (p1 : Int32) : AI (S_take A p1).2 := by
  unfold S_take
  repeat' split
  all_goals first | exact hI | exact rf_AI hI _
theorem a_hang {A : St} (hI : AI A) (p1 : Int32) : AI (S_hang A p1).2 := by
  unfold S_hang
  repeat' split
  all_goals first | exact hI | exact rf_AI hI _
theorem a_ballast {A : St} (hI : AI A) (p1 p2 p3 : Int32) : AI (S_ballast A p1 p2 p3).2 := by
  unfold S_ballast
  repeat' split
  all_goals first | exact hI | exact rf_AI hI _
theorem a_mustWeigh {A : St} (hI : AI A) (p1 p2 p3 : Int32) : AI (S_mustWeigh A p1 p2 p3).2 := by
  unfold S_mustWeigh
  repeat' split
  all_goals first | exact hI | exact rf_AI hI _
theorem a_bestKind {A : St} (hI : AI A) (p1 p2 p3 : Int32) : AI (S_bestKind A p1 p2 p3).2 := by
  unfold S_bestKind
  repeat' split
  all_goals first | exact hI | exact rf_AI hI _
theorem a_heaviest {A : St} (hI : AI A) (p1 : Int32) : AI (S_heaviest A p1).2 := by
  unfold S_heaviest
  repeat' split
  all_goals first | exact hI | exact rf_AI hI _
theorem a_two {A : St} (hI : AI A) (p1 p2 p3 : Int32) : AI (S_two A p1 p2 p3).2 := by
  unfold S_two
  repeat' split
  all_goals first | exact hI | exact rf_AI hI _
theorem a_draught {A : St} (hI : AI A) (p1 p2 p3 p4 : Int32) : AI (S_draught A p1 p2 p3 p4).2 := by
  unfold S_draught
  repeat' split
  all_goals first | exact hI | exact rf_AI hI _
theorem a_mean {A : St} (hI : AI A) (p1 : Int32) : AI (S_mean A p1).2 := by
  unfold S_mean
  repeat' split
  all_goals first | exact hI | exact rf_AI hI _
theorem a_whatIs {A : St} (hI : AI A) (p1 p2 : Int32) : AI (S_whatIs A p1 p2).2 := by
  unfold S_whatIs
  repeat' split
  all_goals first | exact hI | exact rf_AI hI _
theorem a_lots {A : St} (hI : AI A) (p1 p2 p3 : Int32) : AI (S_lots A p1 p2 p3).2 := by
  unfold S_lots
  repeat' split
  all_goals first | exact hI | exact rf_AI hI _
