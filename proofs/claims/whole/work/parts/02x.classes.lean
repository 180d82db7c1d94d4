theorem inlX1 : ∀ w ∈ u_ws RX1 TX1 2, w ∈ LW := by
  intro w hw
  obtain ⟨k, hk, rfl⟩ := List.mem_map.mp hw
  exact (show ∀ a, a < 2 → u_lay RX1 TX1 a ∈ LW from (lt_s (lt_s lt_0 (tw1_47)) (tw1_49))) k (List.mem_range.mp hk)
theorem inlX2 : ∀ w ∈ u_ws RX2 TX2 4, w ∈ LW := by
  intro w hw
  obtain ⟨k, hk, rfl⟩ := List.mem_map.mp hw
  exact (show ∀ a, a < 4 → u_lay RX2 TX2 a ∈ LW from (lt_s (lt_s (lt_s (lt_s lt_0 (tw1_129)) (tw1_131)) (tw1_133)) (tw1_135))) k (List.mem_range.mp hk)
theorem inlX4 : ∀ w ∈ u_ws RX4 TX4 9, w ∈ LW := by
  intro w hw
  obtain ⟨k, hk, rfl⟩ := List.mem_map.mp hw
  exact (show ∀ a, a < 9 → u_lay RX4 TX4 a ∈ LW from (lt_s (lt_s (lt_s (lt_s (lt_s (lt_s (lt_s (lt_s (lt_s lt_0 (tw1_154)) (tw1_156)) (tw1_158)) (tw1_160)) (tw1_162)) (tw1_164)) (tw1_166)) (tw1_168)) (tw1_170))) k (List.mem_range.mp hk)
theorem inlX5 : ∀ w ∈ u_ws RX5 TX5 7, w ∈ LW := by
  intro w hw
  obtain ⟨k, hk, rfl⟩ := List.mem_map.mp hw
  exact (show ∀ a, a < 7 → u_lay RX5 TX5 a ∈ LW from (lt_s (lt_s (lt_s (lt_s (lt_s (lt_s (lt_s lt_0 (tw1_102)) (tw1_104)) (tw1_106)) (tw1_108)) (tw1_110)) (tw1_112)) (tw1_114))) k (List.mem_range.mp hk)
theorem inlX6 : ∀ w ∈ u_ws RX6 TX6 9, w ∈ LW := by
  intro w hw
  obtain ⟨k, hk, rfl⟩ := List.mem_map.mp hw
  exact (show ∀ a, a < 9 → u_lay RX6 TX6 a ∈ LW from (lt_s (lt_s (lt_s (lt_s (lt_s (lt_s (lt_s (lt_s (lt_s lt_0 (tw1_62)) (tw1_64)) (tw1_66)) (tw1_68)) (tw1_70)) (tw1_72)) (tw1_74)) (tw1_76)) (tw1_78))) k (List.mem_range.mp hk)
theorem inlX7 : ∀ w ∈ u_ws RX7 TX7 9, w ∈ LW := by
  intro w hw
  obtain ⟨k, hk, rfl⟩ := List.mem_map.mp hw
  exact (show ∀ a, a < 9 → u_lay RX7 TX7 a ∈ LW from (lt_s (lt_s (lt_s (lt_s (lt_s (lt_s (lt_s (lt_s (lt_s lt_0 (tw1_190)) (tw1_192)) (tw1_194)) (tw1_196)) (tw1_198)) (tw1_200)) (tw1_202)) (tw1_204)) (tw1_206))) k (List.mem_range.mp hk)
theorem inlX8 : ∀ w ∈ u_ws RX8 TX8 19, w ∈ LW := by
  intro w hw
  obtain ⟨k, hk, rfl⟩ := List.mem_map.mp hw
  exact (show ∀ a, a < 19 → u_lay RX8 TX8 a ∈ LW from (lt_s (lt_s (lt_s (lt_s (lt_s (lt_s (lt_s (lt_s (lt_s (lt_s (lt_s (lt_s (lt_s (lt_s (lt_s (lt_s (lt_s (lt_s (lt_s lt_0 (tw1_229)) (tw1_231)) (tw1_233)) (tw1_235)) (tw1_237)) (tw1_239)) (tw2_1)) (tw2_3)) (tw2_5)) (tw2_7)) (tw2_9)) (tw2_11)) (tw2_13)) (tw2_15)) (tw2_17)) (tw2_19)) (tw2_21)) (tw2_23)) (tw2_25))) k (List.mem_range.mp hk)
theorem inlX9 : ∀ w ∈ u_ws RX9 TX9 51, w ∈ LW := by
  intro w hw
  obtain ⟨k, hk, rfl⟩ := List.mem_map.mp hw
  exact (show ∀ a, a < 51 → u_lay RX9 TX9 a ∈ LW from (lt_s (lt_s (lt_s (lt_s (lt_s (lt_s (lt_s (lt_s (lt_s (lt_s (lt_s (lt_s (lt_s (lt_s (lt_s (lt_s (lt_s (lt_s (lt_s (lt_s (lt_s (lt_s (lt_s (lt_s (lt_s (lt_s (lt_s (lt_s (lt_s (lt_s (lt_s (lt_s (lt_s (lt_s (lt_s (lt_s (lt_s (lt_s (lt_s (lt_s (lt_s (lt_s (lt_s (lt_s (lt_s (lt_s (lt_s (lt_s (lt_s (lt_s (lt_s lt_0 (tw7_7)) (tw7_9)) (tw7_11)) (tw7_13)) (tw7_15)) (tw7_17)) (tw7_19)) (tw7_21)) (tw7_23)) (tw7_25)) (tw7_27)) (tw7_29)) (tw7_31)) (tw7_33)) (tw7_35)) (tw7_37)) (tw7_39)) (tw7_41)) (tw7_43)) (tw7_45)) (tw7_47)) (tw7_49)) (tw7_51)) (tw7_53)) (tw7_55)) (tw7_57)) (tw7_59)) (tw7_61)) (tw7_63)) (tw7_65)) (tw7_67)) (tw7_69)) (tw7_71)) (tw7_73)) (tw7_75)) (tw7_77)) (tw7_79)) (tw7_81)) (tw7_83)) (tw7_85)) (tw7_87)) (tw7_89)) (tw7_91)) (tw7_93)) (tw7_95)) (tw7_97)) (tw7_99)) (tw7_101)) (tw7_103)) (tw7_105)) (tw7_107))) k (List.mem_range.mp hk)
