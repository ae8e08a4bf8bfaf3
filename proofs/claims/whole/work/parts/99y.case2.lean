theorem cs_40 {M : MT} {E : Ev} {b Ln : Nat} {xs : Nat → Int32} {base kc ks n : Nat} {Q : State → Prop} {am : Nat → Nat} {σ μ : St} {I : Im} (K : OKl M E b Ln xs base) (hD : DJ E am I base) (h : Rl (JI I) σ μ) (hn : n + 8 ≤ Ln) (h1 : kc + 20 ≤ 603072) (h2 : ks + 1300 ≤ 7211114) (kk : Kn M E am b base n (kc + 20) (ks + 1300) Q) : VZ M (bA base) 8 kc ks Q (Wl E am σ I μ) 3519 (LL b E am n) [] := by
  obtain ⟨k, σ', μ1, v, hW, hm, hk, hv, hR⟩ := lw_box M.2.1 K.q.nt hD.1.O (JI I) σ μ (xs (n + 1)) (xs (n + 2)) (lgv (xs (n + 3)) (xs (n + 4))) (lgv (xs (n + 5)) (xs (n + 6))) (xs (n + 7)) h
  refine z_aload1 (pc := 3519) K.z dL_law_3519 ?_
  refine z_ar (pc := 3520) 1 K hn dL_law_3520 dL_law_3521 dL_law_3523 dL_law_3524 dL_law_3525 (by decide) (by decide) ?_
  refine z_ar (pc := 3526) 2 K hn dL_law_3526 dL_law_3527 dL_law_3529 dL_law_3530 dL_law_3531 (by decide) (by decide) ?_
  refine z_ar (pc := 3532) 3 K hn dL_law_3532 dL_law_3533 dL_law_3535 dL_law_3536 dL_law_3537 (by decide) (by decide) ?_
  refine z_hi (pc := 3538) K dL_law_3538 dL_law_3539 dL_law_3541 ?_
  refine z_ar (pc := 3542) 4 K hn dL_law_3542 dL_law_3543 dL_law_3545 dL_law_3546 dL_law_3547 (by decide) (by decide) ?_
  refine z_lo (pc := 3548) K dL_law_3548 dL_law_3549 dL_law_3552 dL_law_3553 ?_
  refine z_ar (pc := 3554) 5 K hn dL_law_3554 dL_law_3555 dL_law_3557 dL_law_3558 dL_law_3559 (by decide) (by decide) ?_
  refine z_hi (pc := 3560) K dL_law_3560 dL_law_3561 dL_law_3563 ?_
  refine z_arb (pc := 3564) 6 K hn dL_law_3564 dL_law_3565 dL_law_3567 dL_law_3569 dL_law_3570 (by decide) (by decide) ?_
  refine z_lo (pc := 3571) K dL_law_3571 dL_law_3572 dL_law_3575 dL_law_3576 ?_
  refine z_arb (pc := 3577) 7 K hn dL_law_3577 dL_law_3578 dL_law_3580 dL_law_3582 dL_law_3583 (by decide) (by decide) ?_
  refine z_aload3 (pc := 3584) K.z dL_law_3584 ?_
  refine z_lW (pc := 3585) (As := [.ref (E.2.2 0), .int (xs (n + 1)), .int (xs (n + 2)), .long (lgv (xs (n + 3)) (xs (n + 4))), .long (lgv (xs (n + 5)) (xs (n + 6))), .int (xs (n + 7)), .ref (E.2.2 28)]) K hD cw_box ml_RL_345 hW rfl rfl (by decide) (Nat.le_of_ble_eq_true rfl) (Nat.le_of_ble_eq_true rfl) h1 h2 dL_law_3585 ?_
  refine z_istore5 (pc := 3588) K.z dL_law_3588 rfl (by decide) ?_
  refine z_aload2 (pc := 3590) K.z dL_law_3590 ?_
  refine z_ar (pc := 3591) 1 K hn dL_law_3591 dL_law_3592 dL_law_3594 dL_law_3595 dL_law_3596 (by decide) (by decide) ?_
  refine z_ar (pc := 3597) 2 K hn dL_law_3597 dL_law_3598 dL_law_3600 dL_law_3601 dL_law_3602 (by decide) (by decide) ?_
  refine z_ar (pc := 3603) 3 K hn dL_law_3603 dL_law_3604 dL_law_3606 dL_law_3607 dL_law_3608 (by decide) (by decide) ?_
  refine z_hi (pc := 3609) K dL_law_3609 dL_law_3610 dL_law_3612 ?_
  refine z_ar (pc := 3613) 4 K hn dL_law_3613 dL_law_3614 dL_law_3616 dL_law_3617 dL_law_3618 (by decide) (by decide) ?_
  refine z_lo (pc := 3619) K dL_law_3619 dL_law_3620 dL_law_3623 dL_law_3624 ?_
  refine z_ar (pc := 3625) 5 K hn dL_law_3625 dL_law_3626 dL_law_3628 dL_law_3629 dL_law_3630 (by decide) (by decide) ?_
  refine z_hi (pc := 3631) K dL_law_3631 dL_law_3632 dL_law_3634 ?_
  refine z_arb (pc := 3635) 6 K hn dL_law_3635 dL_law_3636 dL_law_3638 dL_law_3640 dL_law_3641 (by decide) (by decide) ?_
  refine z_lo (pc := 3642) K dL_law_3642 dL_law_3643 dL_law_3646 dL_law_3647 ?_
  refine z_arb (pc := 3648) 7 K hn dL_law_3648 dL_law_3649 dL_law_3651 dL_law_3653 dL_law_3654 (by decide) (by decide) ?_
  refine z_lM (pc := 3655) (As := [.int (xs (n + 1)), .int (xs (n + 2)), .long (lgv (xs (n + 3)) (xs (n + 4))), .long (lgv (xs (n + 5)) (xs (n + 6))), .int (xs (n + 7))]) K hD ca_yX4_box ml_RL_348 rfl (t_X4_box _ K.q.nt hD.2.1 μ (xs (n + 1)) (xs (n + 2)) (lgv (xs (n + 3)) (xs (n + 4))) (lgv (xs (n + 5)) (xs (n + 6))) (xs (n + 7)) (v, μ1) hm) rfl rfl (by decide) (Nat.le_of_ble_eq_true rfl) (Nat.le_of_ble_eq_true rfl) h1 h2 dL_law_3655 ?_
  exact z_tI (pc := 3658) K hD hR hk hv h1 h2 dL_law_3658 dL_law_3660 dL_law_3661 dL_law_3664 dL_law_3666 dL_law_3671 dL_law_3673 dL_law_3676 dL_law_3677 dL_law_3678 dL_law_3679 dL_law_3681 dL_law_3682 dL_law_3683 dL_law_3688 (by decide) kk
theorem cs_41 {M : MT} {E : Ev} {b Ln : Nat} {xs : Nat → Int32} {base kc ks n : Nat} {Q : State → Prop} {am : Nat → Nat} {σ μ : St} {I : Im} (K : OKl M E b Ln xs base) (hD : DJ E am I base) (h : Rl (JI I) σ μ) (hn : n + 8 ≤ Ln) (h1 : kc + 20 ≤ 603072) (h2 : ks + 1300 ≤ 7211114) (kk : Kn M E am b base n (kc + 20) (ks + 1300) Q) : VZ M (bA base) 8 kc ks Q (Wl E am σ I μ) 3691 (LL b E am n) [] := by
  obtain ⟨k, σ', μ1, v, hW, hm, hk, hv, hR⟩ := lw_add M.2.1 K.q.nt hD.1.O (JI I) σ μ (xs (n + 1)) (lgv (xs (n + 2)) (xs (n + 3))) (xs (n + 4)) h
  refine z_aload1 (pc := 3691) K.z dL_law_3691 ?_
  refine z_ar (pc := 3692) 1 K hn dL_law_3692 dL_law_3693 dL_law_3695 dL_law_3696 dL_law_3697 (by decide) (by decide) ?_
  refine z_ar (pc := 3698) 2 K hn dL_law_3698 dL_law_3699 dL_law_3701 dL_law_3702 dL_law_3703 (by decide) (by decide) ?_
  refine z_hi (pc := 3704) K dL_law_3704 dL_law_3705 dL_law_3707 ?_
  refine z_ar (pc := 3708) 3 K hn dL_law_3708 dL_law_3709 dL_law_3711 dL_law_3712 dL_law_3713 (by decide) (by decide) ?_
  refine z_lo (pc := 3714) K dL_law_3714 dL_law_3715 dL_law_3718 dL_law_3719 ?_
  refine z_ar (pc := 3720) 4 K hn dL_law_3720 dL_law_3721 dL_law_3723 dL_law_3724 dL_law_3725 (by decide) (by decide) ?_
  refine z_aload3 (pc := 3726) K.z dL_law_3726 ?_
  refine z_lW (pc := 3727) (As := [.ref (E.2.2 0), .int (xs (n + 1)), .long (lgv (xs (n + 2)) (xs (n + 3))), .int (xs (n + 4)), .ref (E.2.2 28)]) K hD cw_add ml_RL_349 hW rfl rfl (by decide) (Nat.le_of_ble_eq_true rfl) (Nat.le_of_ble_eq_true rfl) h1 h2 dL_law_3727 ?_
  refine z_istore5 (pc := 3730) K.z dL_law_3730 rfl (by decide) ?_
  refine z_aload2 (pc := 3732) K.z dL_law_3732 ?_
  refine z_ar (pc := 3733) 1 K hn dL_law_3733 dL_law_3734 dL_law_3736 dL_law_3737 dL_law_3738 (by decide) (by decide) ?_
  refine z_ar (pc := 3739) 2 K hn dL_law_3739 dL_law_3740 dL_law_3742 dL_law_3743 dL_law_3744 (by decide) (by decide) ?_
  refine z_hi (pc := 3745) K dL_law_3745 dL_law_3746 dL_law_3748 ?_
  refine z_ar (pc := 3749) 3 K hn dL_law_3749 dL_law_3750 dL_law_3752 dL_law_3753 dL_law_3754 (by decide) (by decide) ?_
  refine z_lo (pc := 3755) K dL_law_3755 dL_law_3756 dL_law_3759 dL_law_3760 ?_
  refine z_ar (pc := 3761) 4 K hn dL_law_3761 dL_law_3762 dL_law_3764 dL_law_3765 dL_law_3766 (by decide) (by decide) ?_
  refine z_lM (pc := 3767) (As := [.int (xs (n + 1)), .long (lgv (xs (n + 2)) (xs (n + 3))), .int (xs (n + 4))]) K hD ca_yX4_add ml_RL_352 rfl (t_X4_add _ K.q.nt hD.2.1 μ (xs (n + 1)) (lgv (xs (n + 2)) (xs (n + 3))) (xs (n + 4)) (v, μ1) hm) rfl rfl (by decide) (Nat.le_of_ble_eq_true rfl) (Nat.le_of_ble_eq_true rfl) h1 h2 dL_law_3767 ?_
  exact z_tI (pc := 3770) K hD hR hk hv h1 h2 dL_law_3770 dL_law_3772 dL_law_3773 dL_law_3776 dL_law_3778 dL_law_3783 dL_law_3785 dL_law_3788 dL_law_3789 dL_law_3790 dL_law_3791 dL_law_3793 dL_law_3794 dL_law_3795 dL_law_3800 (by decide) kk
theorem cs_42 {M : MT} {E : Ev} {b Ln : Nat} {xs : Nat → Int32} {base kc ks n : Nat} {Q : State → Prop} {am : Nat → Nat} {σ μ : St} {I : Im} (K : OKl M E b Ln xs base) (hD : DJ E am I base) (h : Rl (JI I) σ μ) (hn : n + 8 ≤ Ln) (h1 : kc + 20 ≤ 603072) (h2 : ks + 1300 ≤ 7211114) (kk : Kn M E am b base n (kc + 20) (ks + 1300) Q) : VZ M (bA base) 8 kc ks Q (Wl E am σ I μ) 3803 (LL b E am n) [] := by
  obtain ⟨k, σ', μ1, v, hW, hm, hk, hv, hR⟩ := lw_plus M.2.1 K.q.nt hD.1.O (JI I) σ μ (xs (n + 1)) (xs (n + 2)) (bI ((xs (n + 3)) != 0)) (xs (n + 4)) h
  refine z_aload1 (pc := 3803) K.z dL_law_3803 ?_
  refine z_ar (pc := 3804) 1 K hn dL_law_3804 dL_law_3805 dL_law_3807 dL_law_3808 dL_law_3809 (by decide) (by decide) ?_
  refine z_ar (pc := 3810) 2 K hn dL_law_3810 dL_law_3811 dL_law_3813 dL_law_3814 dL_law_3815 (by decide) (by decide) ?_
  refine z_ar (pc := 3816) 3 K hn dL_law_3816 dL_law_3817 dL_law_3819 dL_law_3820 dL_law_3821 (by decide) (by decide) ?_
  refine z_fl (pc := 3822) K dL_law_3822 dL_law_3825 dL_law_3826 dL_law_3829 ?_
  refine z_ar (pc := 3830) 4 K hn dL_law_3830 dL_law_3831 dL_law_3833 dL_law_3834 dL_law_3835 (by decide) (by decide) ?_
  refine z_aload3 (pc := 3836) K.z dL_law_3836 ?_
  refine z_lW (pc := 3837) (As := [.ref (E.2.2 0), .int (xs (n + 1)), .int (xs (n + 2)), .int (bI ((xs (n + 3)) != 0)), .int (xs (n + 4)), .ref (E.2.2 28)]) K hD cw_plus ml_RL_353 hW rfl rfl (by decide) (Nat.le_of_ble_eq_true rfl) (Nat.le_of_ble_eq_true rfl) h1 h2 dL_law_3837 ?_
  refine z_istore5 (pc := 3840) K.z dL_law_3840 rfl (by decide) ?_
  refine z_aload2 (pc := 3842) K.z dL_law_3842 ?_
  refine z_ar (pc := 3843) 1 K hn dL_law_3843 dL_law_3844 dL_law_3846 dL_law_3847 dL_law_3848 (by decide) (by decide) ?_
  refine z_ar (pc := 3849) 2 K hn dL_law_3849 dL_law_3850 dL_law_3852 dL_law_3853 dL_law_3854 (by decide) (by decide) ?_
  refine z_ar (pc := 3855) 3 K hn dL_law_3855 dL_law_3856 dL_law_3858 dL_law_3859 dL_law_3860 (by decide) (by decide) ?_
  refine z_fl (pc := 3861) K dL_law_3861 dL_law_3864 dL_law_3865 dL_law_3868 ?_
  refine z_ar (pc := 3869) 4 K hn dL_law_3869 dL_law_3870 dL_law_3872 dL_law_3873 dL_law_3874 (by decide) (by decide) ?_
  refine z_lM (pc := 3875) (As := [.int (xs (n + 1)), .int (xs (n + 2)), .int (bI ((xs (n + 3)) != 0)), .int (xs (n + 4))]) K hD ca_yX4_plus ml_RL_356 rfl (t_X4_plus _ K.q.nt hD.2.1 μ (xs (n + 1)) (xs (n + 2)) (bI ((xs (n + 3)) != 0)) (xs (n + 4)) (v, μ1) hm) rfl rfl (by decide) (Nat.le_of_ble_eq_true rfl) (Nat.le_of_ble_eq_true rfl) h1 h2 dL_law_3875 ?_
  exact z_tI (pc := 3878) K hD hR hk hv h1 h2 dL_law_3878 dL_law_3880 dL_law_3881 dL_law_3884 dL_law_3886 dL_law_3891 dL_law_3893 dL_law_3896 dL_law_3897 dL_law_3898 dL_law_3899 dL_law_3901 dL_law_3902 dL_law_3903 dL_law_3908 (by decide) kk
theorem cs_43 {M : MT} {E : Ev} {b Ln : Nat} {xs : Nat → Int32} {base kc ks n : Nat} {Q : State → Prop} {am : Nat → Nat} {σ μ : St} {I : Im} (K : OKl M E b Ln xs base) (hD : DJ E am I base) (h : Rl (JI I) σ μ) (hn : n + 8 ≤ Ln) (h1 : kc + 20 ≤ 603072) (h2 : ks + 1300 ≤ 7211114) (kk : Kn M E am b base n (kc + 20) (ks + 1300) Q) : VZ M (bA base) 8 kc ks Q (Wl E am σ I μ) 3911 (LL b E am n) [] := by
  obtain ⟨k, σ', μ1, v, hW, hm, hk, hv, hR⟩ := lw_scale M.2.1 K.q.nt hD.1.O (JI I) σ μ (xs (n + 1)) (xs (n + 2)) (xs (n + 3)) h
  refine z_aload1 (pc := 3911) K.z dL_law_3911 ?_
  refine z_ar (pc := 3912) 1 K hn dL_law_3912 dL_law_3913 dL_law_3915 dL_law_3916 dL_law_3917 (by decide) (by decide) ?_
  refine z_ar (pc := 3918) 2 K hn dL_law_3918 dL_law_3919 dL_law_3921 dL_law_3922 dL_law_3923 (by decide) (by decide) ?_
  refine z_ar (pc := 3924) 3 K hn dL_law_3924 dL_law_3925 dL_law_3927 dL_law_3928 dL_law_3929 (by decide) (by decide) ?_
  refine z_aload3 (pc := 3930) K.z dL_law_3930 ?_
  refine z_lW (pc := 3931) (As := [.ref (E.2.2 0), .int (xs (n + 1)), .int (xs (n + 2)), .int (xs (n + 3)), .ref (E.2.2 28)]) K hD cw_scale ml_RL_357 hW rfl rfl (by decide) (Nat.le_of_ble_eq_true rfl) (Nat.le_of_ble_eq_true rfl) h1 h2 dL_law_3931 ?_
  refine z_istore5 (pc := 3934) K.z dL_law_3934 rfl (by decide) ?_
  refine z_aload2 (pc := 3936) K.z dL_law_3936 ?_
  refine z_ar (pc := 3937) 1 K hn dL_law_3937 dL_law_3938 dL_law_3940 dL_law_3941 dL_law_3942 (by decide) (by decide) ?_
  refine z_ar (pc := 3943) 2 K hn dL_law_3943 dL_law_3944 dL_law_3946 dL_law_3947 dL_law_3948 (by decide) (by decide) ?_
  refine z_ar (pc := 3949) 3 K hn dL_law_3949 dL_law_3950 dL_law_3952 dL_law_3953 dL_law_3954 (by decide) (by decide) ?_
  refine z_lM (pc := 3955) (As := [.int (xs (n + 1)), .int (xs (n + 2)), .int (xs (n + 3))]) K hD ca_yX4_scale ml_RL_359 rfl (t_X4_scale _ K.q.nt hD.2.1 μ (xs (n + 1)) (xs (n + 2)) (xs (n + 3)) (v, μ1) hm) rfl rfl (by decide) (Nat.le_of_ble_eq_true rfl) (Nat.le_of_ble_eq_true rfl) h1 h2 dL_law_3955 ?_
  exact z_tI (pc := 3958) K hD hR hk hv h1 h2 dL_law_3958 dL_law_3960 dL_law_3961 dL_law_3964 dL_law_3966 dL_law_3971 dL_law_3973 dL_law_3976 dL_law_3977 dL_law_3978 dL_law_3979 dL_law_3981 dL_law_3982 dL_law_3983 dL_law_3988 (by decide) kk
theorem cs_44 {M : MT} {E : Ev} {b Ln : Nat} {xs : Nat → Int32} {base kc ks n : Nat} {Q : State → Prop} {am : Nat → Nat} {σ μ : St} {I : Im} (K : OKl M E b Ln xs base) (hD : DJ E am I base) (h : Rl (JI I) σ μ) (hn : n + 8 ≤ Ln) (h1 : kc + 20 ≤ 603072) (h2 : ks + 1300 ≤ 7211114) (kk : Kn M E am b base n (kc + 20) (ks + 1300) Q) : VZ M (bA base) 8 kc ks Q (Wl E am σ I μ) 3991 (LL b E am n) [] := by
  obtain ⟨k, σ', μ1, v, hW, hm, hk, hv, hR⟩ := lw_shift M.2.1 K.q.nt hD.1.O (JI I) σ μ (xs (n + 1)) (xs (n + 2)) (xs (n + 3)) h
  refine z_aload1 (pc := 3991) K.z dL_law_3991 ?_
  refine z_ar (pc := 3992) 1 K hn dL_law_3992 dL_law_3993 dL_law_3995 dL_law_3996 dL_law_3997 (by decide) (by decide) ?_
  refine z_ar (pc := 3998) 2 K hn dL_law_3998 dL_law_3999 dL_law_4001 dL_law_4002 dL_law_4003 (by decide) (by decide) ?_
  refine z_ar (pc := 4004) 3 K hn dL_law_4004 dL_law_4005 dL_law_4007 dL_law_4008 dL_law_4009 (by decide) (by decide) ?_
  refine z_aload3 (pc := 4010) K.z dL_law_4010 ?_
  refine z_lW (pc := 4011) (As := [.ref (E.2.2 0), .int (xs (n + 1)), .int (xs (n + 2)), .int (xs (n + 3)), .ref (E.2.2 28)]) K hD cw_shift ml_RL_360 hW rfl rfl (by decide) (Nat.le_of_ble_eq_true rfl) (Nat.le_of_ble_eq_true rfl) h1 h2 dL_law_4011 ?_
  refine z_istore5 (pc := 4014) K.z dL_law_4014 rfl (by decide) ?_
  refine z_aload2 (pc := 4016) K.z dL_law_4016 ?_
  refine z_ar (pc := 4017) 1 K hn dL_law_4017 dL_law_4018 dL_law_4020 dL_law_4021 dL_law_4022 (by decide) (by decide) ?_
  refine z_ar (pc := 4023) 2 K hn dL_law_4023 dL_law_4024 dL_law_4026 dL_law_4027 dL_law_4028 (by decide) (by decide) ?_
  refine z_ar (pc := 4029) 3 K hn dL_law_4029 dL_law_4030 dL_law_4032 dL_law_4033 dL_law_4034 (by decide) (by decide) ?_
  refine z_lM (pc := 4035) (As := [.int (xs (n + 1)), .int (xs (n + 2)), .int (xs (n + 3))]) K hD ca_yX4_shift ml_RL_362 rfl (t_X4_shift _ K.q.nt hD.2.1 μ (xs (n + 1)) (xs (n + 2)) (xs (n + 3)) (v, μ1) hm) rfl rfl (by decide) (Nat.le_of_ble_eq_true rfl) (Nat.le_of_ble_eq_true rfl) h1 h2 dL_law_4035 ?_
  exact z_tI (pc := 4038) K hD hR hk hv h1 h2 dL_law_4038 dL_law_4040 dL_law_4041 dL_law_4044 dL_law_4046 dL_law_4051 dL_law_4053 dL_law_4056 dL_law_4057 dL_law_4058 dL_law_4059 dL_law_4061 dL_law_4062 dL_law_4063 dL_law_4068 (by decide) kk
theorem cs_45 {M : MT} {E : Ev} {b Ln : Nat} {xs : Nat → Int32} {base kc ks n : Nat} {Q : State → Prop} {am : Nat → Nat} {σ μ : St} {I : Im} (K : OKl M E b Ln xs base) (hD : DJ E am I base) (h : Rl (JI I) σ μ) (hn : n + 8 ≤ Ln) (h1 : kc + 20 ≤ 603072) (h2 : ks + 1300 ≤ 7211114) (kk : Kn M E am b base n (kc + 20) (ks + 1300) Q) : VZ M (bA base) 8 kc ks Q (Wl E am σ I μ) 4071 (LL b E am n) [] := by
  obtain ⟨k, σ', μ1, v, hW, hm, hk, hv, hR⟩ := lw_hold M.2.1 K.q.nt hD.1.O (JI I) σ μ (xs (n + 1)) (lgv (xs (n + 2)) (xs (n + 3))) (lgv (xs (n + 4)) (xs (n + 5))) (xs (n + 6)) h
  refine z_aload1 (pc := 4071) K.z dL_law_4071 ?_
  refine z_ar (pc := 4072) 1 K hn dL_law_4072 dL_law_4073 dL_law_4075 dL_law_4076 dL_law_4077 (by decide) (by decide) ?_
  refine z_ar (pc := 4078) 2 K hn dL_law_4078 dL_law_4079 dL_law_4081 dL_law_4082 dL_law_4083 (by decide) (by decide) ?_
  refine z_hi (pc := 4084) K dL_law_4084 dL_law_4085 dL_law_4087 ?_
  refine z_ar (pc := 4088) 3 K hn dL_law_4088 dL_law_4089 dL_law_4091 dL_law_4092 dL_law_4093 (by decide) (by decide) ?_
  refine z_lo (pc := 4094) K dL_law_4094 dL_law_4095 dL_law_4098 dL_law_4099 ?_
  refine z_ar (pc := 4100) 4 K hn dL_law_4100 dL_law_4101 dL_law_4103 dL_law_4104 dL_law_4105 (by decide) (by decide) ?_
  refine z_hi (pc := 4106) K dL_law_4106 dL_law_4107 dL_law_4109 ?_
  refine z_ar (pc := 4110) 5 K hn dL_law_4110 dL_law_4111 dL_law_4113 dL_law_4114 dL_law_4115 (by decide) (by decide) ?_
  refine z_lo (pc := 4116) K dL_law_4116 dL_law_4117 dL_law_4120 dL_law_4121 ?_
  refine z_arb (pc := 4122) 6 K hn dL_law_4122 dL_law_4123 dL_law_4125 dL_law_4127 dL_law_4128 (by decide) (by decide) ?_
  refine z_aload3 (pc := 4129) K.z dL_law_4129 ?_
  refine z_lW (pc := 4130) (As := [.ref (E.2.2 0), .int (xs (n + 1)), .long (lgv (xs (n + 2)) (xs (n + 3))), .long (lgv (xs (n + 4)) (xs (n + 5))), .int (xs (n + 6)), .ref (E.2.2 28)]) K hD cw_hold ml_RL_363 hW rfl rfl (by decide) (Nat.le_of_ble_eq_true rfl) (Nat.le_of_ble_eq_true rfl) h1 h2 dL_law_4130 ?_
  refine z_istore5 (pc := 4133) K.z dL_law_4133 rfl (by decide) ?_
  refine z_aload2 (pc := 4135) K.z dL_law_4135 ?_
  refine z_ar (pc := 4136) 1 K hn dL_law_4136 dL_law_4137 dL_law_4139 dL_law_4140 dL_law_4141 (by decide) (by decide) ?_
  refine z_ar (pc := 4142) 2 K hn dL_law_4142 dL_law_4143 dL_law_4145 dL_law_4146 dL_law_4147 (by decide) (by decide) ?_
  refine z_hi (pc := 4148) K dL_law_4148 dL_law_4149 dL_law_4151 ?_
  refine z_ar (pc := 4152) 3 K hn dL_law_4152 dL_law_4153 dL_law_4155 dL_law_4156 dL_law_4157 (by decide) (by decide) ?_
  refine z_lo (pc := 4158) K dL_law_4158 dL_law_4159 dL_law_4162 dL_law_4163 ?_
  refine z_ar (pc := 4164) 4 K hn dL_law_4164 dL_law_4165 dL_law_4167 dL_law_4168 dL_law_4169 (by decide) (by decide) ?_
  refine z_hi (pc := 4170) K dL_law_4170 dL_law_4171 dL_law_4173 ?_
  refine z_ar (pc := 4174) 5 K hn dL_law_4174 dL_law_4175 dL_law_4177 dL_law_4178 dL_law_4179 (by decide) (by decide) ?_
  refine z_lo (pc := 4180) K dL_law_4180 dL_law_4181 dL_law_4184 dL_law_4185 ?_
  refine z_arb (pc := 4186) 6 K hn dL_law_4186 dL_law_4187 dL_law_4189 dL_law_4191 dL_law_4192 (by decide) (by decide) ?_
  refine z_lM (pc := 4193) (As := [.int (xs (n + 1)), .long (lgv (xs (n + 2)) (xs (n + 3))), .long (lgv (xs (n + 4)) (xs (n + 5))), .int (xs (n + 6))]) K hD ca_yX4_hold ml_RL_366 rfl (t_X4_hold _ K.q.nt hD.2.1 μ (xs (n + 1)) (lgv (xs (n + 2)) (xs (n + 3))) (lgv (xs (n + 4)) (xs (n + 5))) (xs (n + 6)) (v, μ1) hm) rfl rfl (by decide) (Nat.le_of_ble_eq_true rfl) (Nat.le_of_ble_eq_true rfl) h1 h2 dL_law_4193 ?_
  exact z_tI (pc := 4196) K hD hR hk hv h1 h2 dL_law_4196 dL_law_4198 dL_law_4199 dL_law_4202 dL_law_4204 dL_law_4209 dL_law_4211 dL_law_4214 dL_law_4215 dL_law_4216 dL_law_4217 dL_law_4219 dL_law_4220 dL_law_4221 dL_law_4226 (by decide) kk
theorem cs_46 {M : MT} {E : Ev} {b Ln : Nat} {xs : Nat → Int32} {base kc ks n : Nat} {Q : State → Prop} {am : Nat → Nat} {σ μ : St} {I : Im} (K : OKl M E b Ln xs base) (hD : DJ E am I base) (h : Rl (JI I) σ μ) (hn : n + 8 ≤ Ln) (h1 : kc + 20 ≤ 603072) (h2 : ks + 1300 ≤ 7211114) (kk : Kn M E am b base n (kc + 20) (ks + 1300) Q) : VZ M (bA base) 8 kc ks Q (Wl E am σ I μ) 4229 (LL b E am n) [] := by
  obtain ⟨k, σ', μ1, v, hW, hm, hk, hv, hR⟩ := lw_fill M.2.1 K.q.nt hD.1.O (JI I) σ μ (xs (n + 1)) (lgv (xs (n + 2)) (xs (n + 3))) (xs (n + 4)) h
  refine z_aload1 (pc := 4229) K.z dL_law_4229 ?_
  refine z_ar (pc := 4230) 1 K hn dL_law_4230 dL_law_4231 dL_law_4233 dL_law_4234 dL_law_4235 (by decide) (by decide) ?_
  refine z_ar (pc := 4236) 2 K hn dL_law_4236 dL_law_4237 dL_law_4239 dL_law_4240 dL_law_4241 (by decide) (by decide) ?_
  refine z_hi (pc := 4242) K dL_law_4242 dL_law_4243 dL_law_4245 ?_
  refine z_ar (pc := 4246) 3 K hn dL_law_4246 dL_law_4247 dL_law_4249 dL_law_4250 dL_law_4251 (by decide) (by decide) ?_
  refine z_lo (pc := 4252) K dL_law_4252 dL_law_4253 dL_law_4256 dL_law_4257 ?_
  refine z_ar (pc := 4258) 4 K hn dL_law_4258 dL_law_4259 dL_law_4261 dL_law_4262 dL_law_4263 (by decide) (by decide) ?_
  refine z_aload3 (pc := 4264) K.z dL_law_4264 ?_
  refine z_lW (pc := 4265) (As := [.ref (E.2.2 0), .int (xs (n + 1)), .long (lgv (xs (n + 2)) (xs (n + 3))), .int (xs (n + 4)), .ref (E.2.2 28)]) K hD cw_fill ml_RL_367 hW rfl rfl (by decide) (Nat.le_of_ble_eq_true rfl) (Nat.le_of_ble_eq_true rfl) h1 h2 dL_law_4265 ?_
  refine z_istore5 (pc := 4268) K.z dL_law_4268 rfl (by decide) ?_
  refine z_aload2 (pc := 4270) K.z dL_law_4270 ?_
  refine z_ar (pc := 4271) 1 K hn dL_law_4271 dL_law_4272 dL_law_4274 dL_law_4275 dL_law_4276 (by decide) (by decide) ?_
  refine z_ar (pc := 4277) 2 K hn dL_law_4277 dL_law_4278 dL_law_4280 dL_law_4281 dL_law_4282 (by decide) (by decide) ?_
  refine z_hi (pc := 4283) K dL_law_4283 dL_law_4284 dL_law_4286 ?_
  refine z_ar (pc := 4287) 3 K hn dL_law_4287 dL_law_4288 dL_law_4290 dL_law_4291 dL_law_4292 (by decide) (by decide) ?_
  refine z_lo (pc := 4293) K dL_law_4293 dL_law_4294 dL_law_4297 dL_law_4298 ?_
  refine z_ar (pc := 4299) 4 K hn dL_law_4299 dL_law_4300 dL_law_4302 dL_law_4303 dL_law_4304 (by decide) (by decide) ?_
  refine z_lM (pc := 4305) (As := [.int (xs (n + 1)), .long (lgv (xs (n + 2)) (xs (n + 3))), .int (xs (n + 4))]) K hD ca_yX4_fill ml_RL_369 rfl (t_X4_fill _ K.q.nt hD.2.1 μ (xs (n + 1)) (lgv (xs (n + 2)) (xs (n + 3))) (xs (n + 4)) (v, μ1) hm) rfl rfl (by decide) (Nat.le_of_ble_eq_true rfl) (Nat.le_of_ble_eq_true rfl) h1 h2 dL_law_4305 ?_
  exact z_tI (pc := 4308) K hD hR hk hv h1 h2 dL_law_4308 dL_law_4310 dL_law_4311 dL_law_4314 dL_law_4316 dL_law_4321 dL_law_4323 dL_law_4326 dL_law_4327 dL_law_4328 dL_law_4329 dL_law_4331 dL_law_4332 dL_law_4333 dL_law_4338 (by decide) kk
theorem cs_47 {M : MT} {E : Ev} {b Ln : Nat} {xs : Nat → Int32} {base kc ks n : Nat} {Q : State → Prop} {am : Nat → Nat} {σ μ : St} {I : Im} (K : OKl M E b Ln xs base) (hD : DJ E am I base) (h : Rl (JI I) σ μ) (hn : n + 8 ≤ Ln) (h1 : kc + 20 ≤ 603072) (h2 : ks + 1300 ≤ 7211114) (kk : Kn M E am b base n (kc + 20) (ks + 1300) Q) : VZ M (bA base) 8 kc ks Q (Wl E am σ I μ) 4341 (LL b E am n) [] := by
  obtain ⟨k, σ', μ1, v, hW, hm, hk, hv, hR⟩ := lw_copy M.2.1 K.q.nt hD.1.O (JI I) σ μ (xs (n + 1)) (xs (n + 2)) (xs (n + 3)) h
  refine z_aload1 (pc := 4341) K.z dL_law_4341 ?_
  refine z_ar (pc := 4342) 1 K hn dL_law_4342 dL_law_4343 dL_law_4345 dL_law_4346 dL_law_4347 (by decide) (by decide) ?_
  refine z_ar (pc := 4348) 2 K hn dL_law_4348 dL_law_4349 dL_law_4351 dL_law_4352 dL_law_4353 (by decide) (by decide) ?_
  refine z_ar (pc := 4354) 3 K hn dL_law_4354 dL_law_4355 dL_law_4357 dL_law_4358 dL_law_4359 (by decide) (by decide) ?_
  refine z_aload3 (pc := 4360) K.z dL_law_4360 ?_
  refine z_lW (pc := 4361) (As := [.ref (E.2.2 0), .int (xs (n + 1)), .int (xs (n + 2)), .int (xs (n + 3)), .ref (E.2.2 28)]) K hD cw_copy ml_RL_370 hW rfl rfl (by decide) (Nat.le_of_ble_eq_true rfl) (Nat.le_of_ble_eq_true rfl) h1 h2 dL_law_4361 ?_
  refine z_istore5 (pc := 4364) K.z dL_law_4364 rfl (by decide) ?_
  refine z_aload2 (pc := 4366) K.z dL_law_4366 ?_
  refine z_ar (pc := 4367) 1 K hn dL_law_4367 dL_law_4368 dL_law_4370 dL_law_4371 dL_law_4372 (by decide) (by decide) ?_
  refine z_ar (pc := 4373) 2 K hn dL_law_4373 dL_law_4374 dL_law_4376 dL_law_4377 dL_law_4378 (by decide) (by decide) ?_
  refine z_ar (pc := 4379) 3 K hn dL_law_4379 dL_law_4380 dL_law_4382 dL_law_4383 dL_law_4384 (by decide) (by decide) ?_
  refine z_lM (pc := 4385) (As := [.int (xs (n + 1)), .int (xs (n + 2)), .int (xs (n + 3))]) K hD ca_yX4_copy ml_RL_372 rfl (t_X4_copy _ K.q.nt hD.2.1 μ (xs (n + 1)) (xs (n + 2)) (xs (n + 3)) (v, μ1) hm) rfl rfl (by decide) (Nat.le_of_ble_eq_true rfl) (Nat.le_of_ble_eq_true rfl) h1 h2 dL_law_4385 ?_
  exact z_tI (pc := 4388) K hD hR hk hv h1 h2 dL_law_4388 dL_law_4390 dL_law_4391 dL_law_4394 dL_law_4396 dL_law_4401 dL_law_4403 dL_law_4406 dL_law_4407 dL_law_4408 dL_law_4409 dL_law_4411 dL_law_4412 dL_law_4413 dL_law_4418 (by decide) kk
theorem cs_48 {M : MT} {E : Ev} {b Ln : Nat} {xs : Nat → Int32} {base kc ks n : Nat} {Q : State → Prop} {am : Nat → Nat} {σ μ : St} {I : Im} (K : OKl M E b Ln xs base) (hD : DJ E am I base) (h : Rl (JI I) σ μ) (hn : n + 8 ≤ Ln) (h1 : kc + 20 ≤ 603072) (h2 : ks + 1300 ≤ 7211114) (kk : Kn M E am b base n (kc + 20) (ks + 1300) Q) : VZ M (bA base) 8 kc ks Q (Wl E am σ I μ) 4421 (LL b E am n) [] := by
  obtain ⟨k, σ', μ1, v, hW, hm, hk, hv, hR⟩ := lw_pick M.2.1 K.q.nt hD.1.O (JI I) σ μ (xs (n + 1)) (xs (n + 2)) (bI ((xs (n + 3)) != 0)) (xs (n + 4)) h
  refine z_aload1 (pc := 4421) K.z dL_law_4421 ?_
  refine z_ar (pc := 4422) 1 K hn dL_law_4422 dL_law_4423 dL_law_4425 dL_law_4426 dL_law_4427 (by decide) (by decide) ?_
  refine z_ar (pc := 4428) 2 K hn dL_law_4428 dL_law_4429 dL_law_4431 dL_law_4432 dL_law_4433 (by decide) (by decide) ?_
  refine z_ar (pc := 4434) 3 K hn dL_law_4434 dL_law_4435 dL_law_4437 dL_law_4438 dL_law_4439 (by decide) (by decide) ?_
  refine z_fl (pc := 4440) K dL_law_4440 dL_law_4443 dL_law_4444 dL_law_4447 ?_
  refine z_ar (pc := 4448) 4 K hn dL_law_4448 dL_law_4449 dL_law_4451 dL_law_4452 dL_law_4453 (by decide) (by decide) ?_
  refine z_aload3 (pc := 4454) K.z dL_law_4454 ?_
  refine z_lW (pc := 4455) (As := [.ref (E.2.2 0), .int (xs (n + 1)), .int (xs (n + 2)), .int (bI ((xs (n + 3)) != 0)), .int (xs (n + 4)), .ref (E.2.2 28)]) K hD cw_pick ml_RL_373 hW rfl rfl (by decide) (Nat.le_of_ble_eq_true rfl) (Nat.le_of_ble_eq_true rfl) h1 h2 dL_law_4455 ?_
  refine z_istore5 (pc := 4458) K.z dL_law_4458 rfl (by decide) ?_
  refine z_aload2 (pc := 4460) K.z dL_law_4460 ?_
  refine z_ar (pc := 4461) 1 K hn dL_law_4461 dL_law_4462 dL_law_4464 dL_law_4465 dL_law_4466 (by decide) (by decide) ?_
  refine z_ar (pc := 4467) 2 K hn dL_law_4467 dL_law_4468 dL_law_4470 dL_law_4471 dL_law_4472 (by decide) (by decide) ?_
  refine z_ar (pc := 4473) 3 K hn dL_law_4473 dL_law_4474 dL_law_4476 dL_law_4477 dL_law_4478 (by decide) (by decide) ?_
  refine z_fl (pc := 4479) K dL_law_4479 dL_law_4482 dL_law_4483 dL_law_4486 ?_
  refine z_ar (pc := 4487) 4 K hn dL_law_4487 dL_law_4488 dL_law_4490 dL_law_4491 dL_law_4492 (by decide) (by decide) ?_
  refine z_lM (pc := 4493) (As := [.int (xs (n + 1)), .int (xs (n + 2)), .int (bI ((xs (n + 3)) != 0)), .int (xs (n + 4))]) K hD ca_yX4_pick ml_RL_375 rfl (t_X4_pick _ K.q.nt hD.2.1 μ (xs (n + 1)) (xs (n + 2)) (bI ((xs (n + 3)) != 0)) (xs (n + 4)) (v, μ1) hm) rfl rfl (by decide) (Nat.le_of_ble_eq_true rfl) (Nat.le_of_ble_eq_true rfl) h1 h2 dL_law_4493 ?_
  exact z_tI (pc := 4496) K hD hR hk hv h1 h2 dL_law_4496 dL_law_4498 dL_law_4499 dL_law_4502 dL_law_4504 dL_law_4509 dL_law_4511 dL_law_4514 dL_law_4515 dL_law_4516 dL_law_4517 dL_law_4519 dL_law_4520 dL_law_4521 dL_law_4526 (by decide) kk
theorem cs_49 {M : MT} {E : Ev} {b Ln : Nat} {xs : Nat → Int32} {base kc ks n : Nat} {Q : State → Prop} {am : Nat → Nat} {σ μ : St} {I : Im} (K : OKl M E b Ln xs base) (hD : DJ E am I base) (h : Rl (JI I) σ μ) (hn : n + 8 ≤ Ln) (h1 : kc + 20 ≤ 603072) (h2 : ks + 1300 ≤ 7211114) (kk : Kn M E am b base n (kc + 20) (ks + 1300) Q) : VZ M (bA base) 8 kc ks Q (Wl E am σ I μ) 4529 (LL b E am n) [] := by
  obtain ⟨k, σ', μ1, v, hW, hm, hk, hv, hR⟩ := lw_wipe M.2.1 K.q.nt hD.1.O (JI I) σ μ (xs (n + 1)) (xs (n + 2)) h
  refine z_aload1 (pc := 4529) K.z dL_law_4529 ?_
  refine z_ar (pc := 4530) 1 K hn dL_law_4530 dL_law_4531 dL_law_4533 dL_law_4534 dL_law_4535 (by decide) (by decide) ?_
  refine z_ar (pc := 4536) 2 K hn dL_law_4536 dL_law_4537 dL_law_4539 dL_law_4540 dL_law_4541 (by decide) (by decide) ?_
  refine z_aload3 (pc := 4542) K.z dL_law_4542 ?_
  refine z_lW (pc := 4543) (As := [.ref (E.2.2 0), .int (xs (n + 1)), .int (xs (n + 2)), .ref (E.2.2 28)]) K hD cw_wipe ml_RL_376 hW rfl rfl (by decide) (Nat.le_of_ble_eq_true rfl) (Nat.le_of_ble_eq_true rfl) h1 h2 dL_law_4543 ?_
  refine z_istore5 (pc := 4546) K.z dL_law_4546 rfl (by decide) ?_
  refine z_aload2 (pc := 4548) K.z dL_law_4548 ?_
  refine z_ar (pc := 4549) 1 K hn dL_law_4549 dL_law_4550 dL_law_4552 dL_law_4553 dL_law_4554 (by decide) (by decide) ?_
  refine z_ar (pc := 4555) 2 K hn dL_law_4555 dL_law_4556 dL_law_4558 dL_law_4559 dL_law_4560 (by decide) (by decide) ?_
  refine z_lM (pc := 4561) (As := [.int (xs (n + 1)), .int (xs (n + 2))]) K hD ca_yX4_wipe ml_RL_378 rfl (t_X4_wipe _ K.q.nt hD.2.1 μ (xs (n + 1)) (xs (n + 2)) (v, μ1) hm) rfl rfl (by decide) (Nat.le_of_ble_eq_true rfl) (Nat.le_of_ble_eq_true rfl) h1 h2 dL_law_4561 ?_
  exact z_tI (pc := 4564) K hD hR hk hv h1 h2 dL_law_4564 dL_law_4566 dL_law_4567 dL_law_4570 dL_law_4572 dL_law_4577 dL_law_4579 dL_law_4582 dL_law_4583 dL_law_4584 dL_law_4585 dL_law_4587 dL_law_4588 dL_law_4589 dL_law_4594 (by decide) kk
theorem cs_50 {M : MT} {E : Ev} {b Ln : Nat} {xs : Nat → Int32} {base kc ks n : Nat} {Q : State → Prop} {am : Nat → Nat} {σ μ : St} {I : Im} (K : OKl M E b Ln xs base) (hD : DJ E am I base) (h : Rl (JI I) σ μ) (hn : n + 8 ≤ Ln) (h1 : kc + 20 ≤ 603072) (h2 : ks + 1300 ≤ 7211114) (kk : Kn M E am b base n (kc + 20) (ks + 1300) Q) : VZ M (bA base) 8 kc ks Q (Wl E am σ I μ) 4597 (LL b E am n) [] := by
  obtain ⟨k, σ', μ1, v, hW, hm, hk, hv, hR⟩ := lw_widen M.2.1 K.q.nt hD.1.O (JI I) σ μ (xs (n + 1)) (xs (n + 2)) h
  refine z_aload1 (pc := 4597) K.z dL_law_4597 ?_
  refine z_ar (pc := 4598) 1 K hn dL_law_4598 dL_law_4599 dL_law_4601 dL_law_4602 dL_law_4603 (by decide) (by decide) ?_
  refine z_ar (pc := 4604) 2 K hn dL_law_4604 dL_law_4605 dL_law_4607 dL_law_4608 dL_law_4609 (by decide) (by decide) ?_
  refine z_aload3 (pc := 4610) K.z dL_law_4610 ?_
  refine z_lW (pc := 4611) (As := [.ref (E.2.2 0), .int (xs (n + 1)), .int (xs (n + 2)), .ref (E.2.2 28)]) K hD cw_widen ml_RL_379 hW rfl rfl (by decide) (Nat.le_of_ble_eq_true rfl) (Nat.le_of_ble_eq_true rfl) h1 h2 dL_law_4611 ?_
  refine z_istore5 (pc := 4614) K.z dL_law_4614 rfl (by decide) ?_
  refine z_aload2 (pc := 4616) K.z dL_law_4616 ?_
  refine z_ar (pc := 4617) 1 K hn dL_law_4617 dL_law_4618 dL_law_4620 dL_law_4621 dL_law_4622 (by decide) (by decide) ?_
  refine z_ar (pc := 4623) 2 K hn dL_law_4623 dL_law_4624 dL_law_4626 dL_law_4627 dL_law_4628 (by decide) (by decide) ?_
  refine z_lM (pc := 4629) (As := [.int (xs (n + 1)), .int (xs (n + 2))]) K hD ca_yX4_widen ml_RL_381 rfl (t_X4_widen _ K.q.nt hD.2.1 μ (xs (n + 1)) (xs (n + 2)) (v, μ1) hm) rfl rfl (by decide) (Nat.le_of_ble_eq_true rfl) (Nat.le_of_ble_eq_true rfl) h1 h2 dL_law_4629 ?_
  exact z_tI (pc := 4632) K hD hR hk hv h1 h2 dL_law_4632 dL_law_4634 dL_law_4635 dL_law_4638 dL_law_4640 dL_law_4645 dL_law_4647 dL_law_4650 dL_law_4651 dL_law_4652 dL_law_4653 dL_law_4655 dL_law_4656 dL_law_4657 dL_law_4662 (by decide) kk
theorem cs_51 {M : MT} {E : Ev} {b Ln : Nat} {xs : Nat → Int32} {base kc ks n : Nat} {Q : State → Prop} {am : Nat → Nat} {σ μ : St} {I : Im} (K : OKl M E b Ln xs base) (hD : DJ E am I base) (h : Rl (JI I) σ μ) (hn : n + 8 ≤ Ln) (h1 : kc + 20 ≤ 603072) (h2 : ks + 1300 ≤ 7211114) (kk : Kn M E am b base n (kc + 20) (ks + 1300) Q) : VZ M (bA base) 8 kc ks Q (Wl E am σ I μ) 4665 (LL b E am n) [] := by
  obtain ⟨k, σ', μ1, v, hW, hm, hk, hv, hR⟩ := lw_remove M.2.1 K.q.nt hD.1.O (JI I) σ μ (xs (n + 1)) h
  refine z_aload1 (pc := 4665) K.z dL_law_4665 ?_
  refine z_ar (pc := 4666) 1 K hn dL_law_4666 dL_law_4667 dL_law_4669 dL_law_4670 dL_law_4671 (by decide) (by decide) ?_
  refine z_aload3 (pc := 4672) K.z dL_law_4672 ?_
  refine z_lW (pc := 4673) (As := [.ref (E.2.2 0), .int (xs (n + 1)), .ref (E.2.2 28)]) K hD cw_remove ml_RL_382 hW rfl rfl (by decide) (Nat.le_of_ble_eq_true rfl) (Nat.le_of_ble_eq_true rfl) h1 h2 dL_law_4673 ?_
  refine z_istore5 (pc := 4676) K.z dL_law_4676 rfl (by decide) ?_
  refine z_aload2 (pc := 4678) K.z dL_law_4678 ?_
  refine z_ar (pc := 4679) 1 K hn dL_law_4679 dL_law_4680 dL_law_4682 dL_law_4683 dL_law_4684 (by decide) (by decide) ?_
  refine z_lM (pc := 4685) (As := [.int (xs (n + 1))]) K hD ca_yX4_remove ml_RL_384 rfl (t_X4_remove _ K.q.nt hD.2.1 μ (xs (n + 1)) (v, μ1) hm) rfl rfl (by decide) (Nat.le_of_ble_eq_true rfl) (Nat.le_of_ble_eq_true rfl) h1 h2 dL_law_4685 ?_
  exact z_tI (pc := 4688) K hD hR hk hv h1 h2 dL_law_4688 dL_law_4690 dL_law_4691 dL_law_4694 dL_law_4696 dL_law_4701 dL_law_4703 dL_law_4706 dL_law_4707 dL_law_4708 dL_law_4709 dL_law_4711 dL_law_4712 dL_law_4713 dL_law_4718 (by decide) kk
theorem cs_52 {M : MT} {E : Ev} {b Ln : Nat} {xs : Nat → Int32} {base kc ks n : Nat} {Q : State → Prop} {am : Nat → Nat} {σ μ : St} {I : Im} (K : OKl M E b Ln xs base) (hD : DJ E am I base) (h : Rl (JI I) σ μ) (hn : n + 8 ≤ Ln) (h1 : kc + 20 ≤ 603072) (h2 : ks + 1300 ≤ 7211114) (kk : Kn M E am b base n (kc + 20) (ks + 1300) Q) : VZ M (bA base) 8 kc ks Q (Wl E am σ I μ) 4721 (LL b E am n) [] := by
  obtain ⟨k, σ', μ1, v, hW, hm, hk, hv, hR⟩ := lw_first M.2.1 K.q.nt hD.1.O (JI I) σ μ (xs (n + 1)) h
  refine z_aload1 (pc := 4721) K.z dL_law_4721 ?_
  refine z_ar (pc := 4722) 1 K hn dL_law_4722 dL_law_4723 dL_law_4725 dL_law_4726 dL_law_4727 (by decide) (by decide) ?_
  refine z_aload3 (pc := 4728) K.z dL_law_4728 ?_
  refine z_lW (pc := 4729) (As := [.ref (E.2.2 0), .int (xs (n + 1)), .ref (E.2.2 28)]) K hD cw_first ml_RL_385 hW rfl rfl (by decide) (Nat.le_of_ble_eq_true rfl) (Nat.le_of_ble_eq_true rfl) h1 h2 dL_law_4729 ?_
  refine z_istore5 (pc := 4732) K.z dL_law_4732 rfl (by decide) ?_
  refine z_aload2 (pc := 4734) K.z dL_law_4734 ?_
  refine z_ar (pc := 4735) 1 K hn dL_law_4735 dL_law_4736 dL_law_4738 dL_law_4739 dL_law_4740 (by decide) (by decide) ?_
  refine z_lM (pc := 4741) (As := [.int (xs (n + 1))]) K hD ca_yX4_first ml_RL_387 rfl (t_X4_first _ K.q.nt hD.2.1 μ (xs (n + 1)) (v, μ1) hm) rfl rfl (by decide) (Nat.le_of_ble_eq_true rfl) (Nat.le_of_ble_eq_true rfl) h1 h2 dL_law_4741 ?_
  exact z_tI (pc := 4744) K hD hR hk hv h1 h2 dL_law_4744 dL_law_4746 dL_law_4747 dL_law_4750 dL_law_4752 dL_law_4757 dL_law_4759 dL_law_4762 dL_law_4763 dL_law_4764 dL_law_4765 dL_law_4767 dL_law_4768 dL_law_4769 dL_law_4774 (by decide) kk
theorem cs_53 {M : MT} {E : Ev} {b Ln : Nat} {xs : Nat → Int32} {base kc ks n : Nat} {Q : State → Prop} {am : Nat → Nat} {σ μ : St} {I : Im} (K : OKl M E b Ln xs base) (hD : DJ E am I base) (h : Rl (JI I) σ μ) (hn : n + 8 ≤ Ln) (h1 : kc + 20 ≤ 603072) (h2 : ks + 1300 ≤ 7211114) (kk : Kn M E am b base n (kc + 20) (ks + 1300) Q) : VZ M (bA base) 8 kc ks Q (Wl E am σ I μ) 4777 (LL b E am n) [] := by
  obtain ⟨k, σ', μ1, v, hW, hm, hk, hv, hR⟩ := lw_sort M.2.1 K.q.nt hD.1.O (JI I) σ μ (xs (n + 1)) ((xs (n + 2)) != 0) h
  refine z_aload1 (pc := 4777) K.z dL_law_4777 ?_
  refine z_ar (pc := 4778) 1 K hn dL_law_4778 dL_law_4779 dL_law_4781 dL_law_4782 dL_law_4783 (by decide) (by decide) ?_
  refine z_ar (pc := 4784) 2 K hn dL_law_4784 dL_law_4785 dL_law_4787 dL_law_4788 dL_law_4789 (by decide) (by decide) ?_
  refine z_fl (pc := 4790) K dL_law_4790 dL_law_4793 dL_law_4794 dL_law_4797 ?_
  refine z_aload3 (pc := 4798) K.z dL_law_4798 ?_
  refine z_lW (pc := 4799) (As := [.ref (E.2.2 0), .int (xs (n + 1)), .int (bI ((xs (n + 2)) != 0)), .ref (E.2.2 28)]) K hD cw_sort ml_RL_388 hW rfl rfl (by decide) (Nat.le_of_ble_eq_true rfl) (Nat.le_of_ble_eq_true rfl) h1 h2 dL_law_4799 ?_
  refine z_istore5 (pc := 4802) K.z dL_law_4802 rfl (by decide) ?_
  refine z_aload2 (pc := 4804) K.z dL_law_4804 ?_
  refine z_ar (pc := 4805) 1 K hn dL_law_4805 dL_law_4806 dL_law_4808 dL_law_4809 dL_law_4810 (by decide) (by decide) ?_
  refine z_ar (pc := 4811) 2 K hn dL_law_4811 dL_law_4812 dL_law_4814 dL_law_4815 dL_law_4816 (by decide) (by decide) ?_
  refine z_fl (pc := 4817) K dL_law_4817 dL_law_4820 dL_law_4821 dL_law_4824 ?_
  refine z_lM (pc := 4825) (As := [.int (xs (n + 1)), .int (bI ((xs (n + 2)) != 0))]) K hD ca_yX4_sort ml_RL_391 rfl (t_X4_sort _ K.q.nt hD.2.1 μ (xs (n + 1)) (bI ((xs (n + 2)) != 0)) (v, μ1) hm) rfl rfl (by decide) (Nat.le_of_ble_eq_true rfl) (Nat.le_of_ble_eq_true rfl) h1 h2 dL_law_4825 ?_
  exact z_tI (pc := 4828) K hD hR hk hv h1 h2 dL_law_4828 dL_law_4830 dL_law_4831 dL_law_4834 dL_law_4836 dL_law_4841 dL_law_4843 dL_law_4846 dL_law_4847 dL_law_4848 dL_law_4849 dL_law_4851 dL_law_4852 dL_law_4853 dL_law_4858 (by decide) kk
theorem cs_54 {M : MT} {E : Ev} {b Ln : Nat} {xs : Nat → Int32} {base kc ks n : Nat} {Q : State → Prop} {am : Nat → Nat} {σ μ : St} {I : Im} (K : OKl M E b Ln xs base) (hD : DJ E am I base) (h : Rl (JI I) σ μ) (hn : n + 8 ≤ Ln) (h1 : kc + 20 ≤ 603072) (h2 : ks + 1300 ≤ 7211114) (kk : Kn M E am b base n (kc + 20) (ks + 1300) Q) : VZ M (bA base) 8 kc ks Q (Wl E am σ I μ) 4861 (LL b E am n) [] := by
  obtain ⟨x, s1, u1, e1, e2, e3⟩ := op_reverse _ σ μ h
  refine z_aload1 (pc := 4861) K.z dL_law_4861 ?_
  refine z_lC (pc := 4862) (As := []) K hD ca_yX3_reverse ml_RL_392 rfl (t_X3_reverse _ K.q.nt (AdrOC hD.1.O) σ (x, s1) e1) rfl rfl (by decide) (Nat.le_of_ble_eq_true rfl) (Nat.le_of_ble_eq_true rfl) (by omega) (by omega) dL_law_4862 ?_
  refine z_aload2 (pc := 4865) K.z dL_law_4865 ?_
  refine z_lM (pc := 4866) (As := []) K hD ca_yX4_reverse ml_RL_395 rfl (t_X4_reverse _ K.q.nt hD.2.1 μ (x, u1) e2) rfl rfl (by simp [Value.category]) (Nat.le_of_ble_eq_true rfl) (Nat.le_of_ble_eq_true rfl) (by omega) (by omega) dL_law_4866 ?_
  refine z_icmp_eq (pc := 4869) (tgt := 5054) K.z dL_law_4869 (by decide) (fun _ => ?_) (fun q => absurd rfl q)
  exact z_w (Nat.le_add_right _ _) (Nat.le_add_right _ _) (kk _ _ _ hD e3.mg)
theorem cs_55 {M : MT} {E : Ev} {b Ln : Nat} {xs : Nat → Int32} {base kc ks n : Nat} {Q : State → Prop} {am : Nat → Nat} {σ μ : St} {I : Im} (K : OKl M E b Ln xs base) (hD : DJ E am I base) (h : Rl (JI I) σ μ) (hn : n + 8 ≤ Ln) (h1 : kc + 20 ≤ 603072) (h2 : ks + 1300 ≤ 7211114) (kk : Kn M E am b base n (kc + 20) (ks + 1300) Q) : VZ M (bA base) 8 kc ks Q (Wl E am σ I μ) 4874 (LL b E am n) [] := by
  obtain ⟨k, σ', μ1, v, hW, hm, hk, hv, hR⟩ := lw_swap M.2.1 K.q.nt hD.1.O (JI I) σ μ (xs (n + 1)) (xs (n + 2)) h
  refine z_aload1 (pc := 4874) K.z dL_law_4874 ?_
  refine z_ar (pc := 4875) 1 K hn dL_law_4875 dL_law_4876 dL_law_4878 dL_law_4879 dL_law_4880 (by decide) (by decide) ?_
  refine z_ar (pc := 4881) 2 K hn dL_law_4881 dL_law_4882 dL_law_4884 dL_law_4885 dL_law_4886 (by decide) (by decide) ?_
  refine z_aload3 (pc := 4887) K.z dL_law_4887 ?_
  refine z_lW (pc := 4888) (As := [.ref (E.2.2 0), .int (xs (n + 1)), .int (xs (n + 2)), .ref (E.2.2 28)]) K hD cw_swap ml_RL_396 hW rfl rfl (by decide) (Nat.le_of_ble_eq_true rfl) (Nat.le_of_ble_eq_true rfl) h1 h2 dL_law_4888 ?_
  refine z_istore5 (pc := 4891) K.z dL_law_4891 rfl (by decide) ?_
  refine z_aload2 (pc := 4893) K.z dL_law_4893 ?_
  refine z_ar (pc := 4894) 1 K hn dL_law_4894 dL_law_4895 dL_law_4897 dL_law_4898 dL_law_4899 (by decide) (by decide) ?_
  refine z_ar (pc := 4900) 2 K hn dL_law_4900 dL_law_4901 dL_law_4903 dL_law_4904 dL_law_4905 (by decide) (by decide) ?_
  refine z_lM (pc := 4906) (As := [.int (xs (n + 1)), .int (xs (n + 2))]) K hD ca_yX4_swap ml_RL_398 rfl (t_X4_swap _ K.q.nt hD.2.1 μ (xs (n + 1)) (xs (n + 2)) (v, μ1) hm) rfl rfl (by decide) (Nat.le_of_ble_eq_true rfl) (Nat.le_of_ble_eq_true rfl) h1 h2 dL_law_4906 ?_
  exact z_tI (pc := 4909) K hD hR hk hv h1 h2 dL_law_4909 dL_law_4911 dL_law_4912 dL_law_4915 dL_law_4917 dL_law_4922 dL_law_4924 dL_law_4927 dL_law_4928 dL_law_4929 dL_law_4930 dL_law_4932 dL_law_4933 dL_law_4934 dL_law_4939 (by decide) kk
theorem cs_56 {M : MT} {E : Ev} {b Ln : Nat} {xs : Nat → Int32} {base kc ks n : Nat} {Q : State → Prop} {am : Nat → Nat} {σ μ : St} {I : Im} (K : OKl M E b Ln xs base) (hD : DJ E am I base) (h : Rl (JI I) σ μ) (hn : n + 8 ≤ Ln) (h1 : kc + 20 ≤ 603072) (h2 : ks + 1300 ≤ 7211114) (kk : Kn M E am b base n (kc + 20) (ks + 1300) Q) : VZ M (bA base) 8 kc ks Q (Wl E am σ I μ) 4942 (LL b E am n) [] := by
  rcases ixd (xs (n + 1)) with ⟨e0, e9⟩ | ⟨j, e0, ej, e3⟩
  · obtain ⟨u1, hm, hk, hR⟩ := op_keep_e _ σ μ e9 h
    refine z_aload1 (pc := 4942) K.z dL_law_4942 ?_
    refine z_ar (pc := 4943) 1 K hn dL_law_4943 dL_law_4944 dL_law_4946 dL_law_4947 dL_law_4948 (by decide) (by decide) ?_
    refine z_aload3 (pc := 4949) K.z dL_law_4949 ?_
    refine z_lW (pc := 4950) (As := [.ref (E.2.2 0), .int (xs (n + 1)), .ref (E.2.2 28)]) K hD cw_keep ml_RL_399 (tw_keep_e1 _ K.q.nt hD.1.O σ (xs (n + 1)) e0) rfl rfl (by decide) (Nat.le_of_ble_eq_true rfl) (Nat.le_of_ble_eq_true rfl) h1 h2 dL_law_4950 ?_
    refine z_istore5 (pc := 4953) K.z dL_law_4953 rfl (by decide) ?_
    refine z_aload2 (pc := 4955) K.z dL_law_4955 ?_
    refine z_ar (pc := 4956) 1 K hn dL_law_4956 dL_law_4957 dL_law_4959 dL_law_4960 dL_law_4961 (by decide) (by decide) ?_
    refine z_lM (pc := 4962) (As := [.int (xs (n + 1))]) K hD ca_yX4_keep ml_RL_401 rfl (t_X4_keep _ K.q.nt hD.2.1 μ (xs (n + 1)) (0, u1) hm) rfl rfl (by decide) (Nat.le_of_ble_eq_true rfl) (Nat.le_of_ble_eq_true rfl) h1 h2 dL_law_4962 ?_
    exact z_tI (pc := 4965) K hD hR.mg hk (fun q => absurd q (by decide)) h1 h2 dL_law_4965 dL_law_4967 dL_law_4968 dL_law_4971 dL_law_4973 dL_law_4978 dL_law_4980 dL_law_4983 dL_law_4984 dL_law_4985 dL_law_4986 dL_law_4988 dL_law_4989 dL_law_4990 dL_law_4995 (by decide) kk
  · obtain ⟨u1, hm, hk, hR⟩ := op_keep (JI I) σ μ ej h
    rw [← e3] at hm
    refine z_aload1 (pc := 4942) K.z dL_law_4942 ?_
    refine z_ar (pc := 4943) 1 K hn dL_law_4943 dL_law_4944 dL_law_4946 dL_law_4947 dL_law_4948 (by decide) (by decide) ?_
    refine z_aload3 (pc := 4949) K.z dL_law_4949 ?_
    refine z_lrun (pc := 4950) (As := [.ref (E.2.2 0), .int (xs (n + 1)), .ref (E.2.2 28)]) K hD cw_keep ml_RL_399 (tl_keep_ok _ K.q.nt hD.1 σ (xs (n + 1)) j e0) rfl rfl (by decide) (Nat.le_of_ble_eq_true rfl) (Nat.le_of_ble_eq_true rfl) h1 h2 dL_law_4950 (fun I' hI' hD' => ?_)
    obtain ⟨ad, rfl⟩ := hI'
    have hR' := JI_up (ad := ad) hR
    refine z_istore5 (pc := 4953) K.z dL_law_4953 rfl (by decide) ?_
    refine z_aload2 (pc := 4955) K.z dL_law_4955 ?_
    refine z_ar (pc := 4956) 1 K hn dL_law_4956 dL_law_4957 dL_law_4959 dL_law_4960 dL_law_4961 (by decide) (by decide) ?_
    refine z_lM (pc := 4962) (As := [.int (xs (n + 1))]) K hD' ca_yX4_keep ml_RL_401 rfl (t_X4_keep _ K.q.nt hD'.2.1 μ (xs (n + 1)) ((σ.1 1 0), u1) hm) rfl rfl (by decide) (Nat.le_of_ble_eq_true rfl) (Nat.le_of_ble_eq_true rfl) h1 h2 dL_law_4962 ?_
    exact z_tI (pc := 4965) K hD' hR'.out hk (fun _ => sL_out) h1 h2 dL_law_4965 dL_law_4967 dL_law_4968 dL_law_4971 dL_law_4973 dL_law_4978 dL_law_4980 dL_law_4983 dL_law_4984 dL_law_4985 dL_law_4986 dL_law_4988 dL_law_4989 dL_law_4990 dL_law_4995 (by decide) kk
theorem cs_57 {M : MT} {E : Ev} {b Ln : Nat} {xs : Nat → Int32} {base kc ks n : Nat} {Q : State → Prop} {am : Nat → Nat} {σ μ : St} {I : Im} (K : OKl M E b Ln xs base) (hD : DJ E am I base) (h : Rl (JI I) σ μ) (hn : n + 8 ≤ Ln) (h1 : kc + 20 ≤ 603072) (h2 : ks + 1300 ≤ 7211114) (kk : Kn M E am b base n (kc + 20) (ks + 1300) Q) : VZ M (bA base) 8 kc ks Q (Wl E am σ I μ) 4998 (LL b E am n) [] := by
  rcases ixd (xs (n + 1)) with ⟨e0, e9⟩ | ⟨j, e0, ej, e3⟩
  · obtain ⟨u1, hm, hk, hR⟩ := op_back_e _ σ μ e9 h
    refine z_aload1 (pc := 4998) K.z dL_law_4998 ?_
    refine z_ar (pc := 4999) 1 K hn dL_law_4999 dL_law_5000 dL_law_5002 dL_law_5003 dL_law_5004 (by decide) (by decide) ?_
    refine z_aload3 (pc := 5005) K.z dL_law_5005 ?_
    refine z_lW (pc := 5006) (As := [.ref (E.2.2 0), .int (xs (n + 1)), .ref (E.2.2 28)]) K hD cw_back ml_RL_402 (tw_back_e1 _ K.q.nt hD.1.O σ (xs (n + 1)) e0) rfl rfl (by decide) (Nat.le_of_ble_eq_true rfl) (Nat.le_of_ble_eq_true rfl) h1 h2 dL_law_5006 ?_
    refine z_istore5 (pc := 5009) K.z dL_law_5009 rfl (by decide) ?_
    refine z_aload2 (pc := 5011) K.z dL_law_5011 ?_
    refine z_ar (pc := 5012) 1 K hn dL_law_5012 dL_law_5013 dL_law_5015 dL_law_5016 dL_law_5017 (by decide) (by decide) ?_
    refine z_lM (pc := 5018) (As := [.int (xs (n + 1))]) K hD ca_yX4_back ml_RL_404 rfl (t_X4_back _ K.q.nt hD.2.1 μ (xs (n + 1)) (0, u1) hm) rfl rfl (by decide) (Nat.le_of_ble_eq_true rfl) (Nat.le_of_ble_eq_true rfl) h1 h2 dL_law_5018 ?_
    exact z_tI (pc := 5021) K hD hR.mg hk (fun q => absurd q (by decide)) h1 h2 dL_law_5021 dL_law_5023 dL_law_5024 dL_law_5027 dL_law_5029 dL_law_5034 dL_law_5036 dL_law_5039 dL_law_5040 dL_law_5041 dL_law_5042 dL_law_5044 dL_law_5045 dL_law_5046 dL_law_5051 (by decide) kk
  rcases eI : I j with _ | ⟨ad, τ⟩
  · obtain ⟨u1, hm, hk, hR⟩ := op_back_n (JI I) σ μ ej (JI_n eI) h
    rw [← e3] at hm
    refine z_aload1 (pc := 4998) K.z dL_law_4998 ?_
    refine z_ar (pc := 4999) 1 K hn dL_law_4999 dL_law_5000 dL_law_5002 dL_law_5003 dL_law_5004 (by decide) (by decide) ?_
    refine z_aload3 (pc := 5005) K.z dL_law_5005 ?_
    refine z_lrun (pc := 5006) (As := [.ref (E.2.2 0), .int (xs (n + 1)), .ref (E.2.2 28)]) K hD cw_back ml_RL_402 (tl_back_e2 _ K.q.nt hD.1 σ (xs (n + 1)) j e0 eI) rfl rfl (by decide) (Nat.le_of_ble_eq_true rfl) (Nat.le_of_ble_eq_true rfl) h1 h2 dL_law_5006 (fun I' hI' hD' => ?_)
    cases hI'
    refine z_istore5 (pc := 5009) K.z dL_law_5009 rfl (by decide) ?_
    refine z_aload2 (pc := 5011) K.z dL_law_5011 ?_
    refine z_ar (pc := 5012) 1 K hn dL_law_5012 dL_law_5013 dL_law_5015 dL_law_5016 dL_law_5017 (by decide) (by decide) ?_
    refine z_lM (pc := 5018) (As := [.int (xs (n + 1))]) K hD' ca_yX4_back ml_RL_404 rfl (t_X4_back _ K.q.nt hD'.2.1 μ (xs (n + 1)) (0, u1) hm) rfl rfl (by decide) (Nat.le_of_ble_eq_true rfl) (Nat.le_of_ble_eq_true rfl) h1 h2 dL_law_5018 ?_
    exact z_tI (pc := 5021) K hD' hR hk (fun q => absurd q (by decide)) h1 h2 dL_law_5021 dL_law_5023 dL_law_5024 dL_law_5027 dL_law_5029 dL_law_5034 dL_law_5036 dL_law_5039 dL_law_5040 dL_law_5041 dL_law_5042 dL_law_5044 dL_law_5045 dL_law_5046 dL_law_5051 (by decide) kk
  · obtain ⟨u1, hm, hk, hR⟩ := op_back (JI I) σ μ ej (JI_s eI) h
    rw [← e3] at hm
    refine z_aload1 (pc := 4998) K.z dL_law_4998 ?_
    refine z_ar (pc := 4999) 1 K hn dL_law_4999 dL_law_5000 dL_law_5002 dL_law_5003 dL_law_5004 (by decide) (by decide) ?_
    refine z_aload3 (pc := 5005) K.z dL_law_5005 ?_
    refine z_lrun (pc := 5006) (As := [.ref (E.2.2 0), .int (xs (n + 1)), .ref (E.2.2 28)]) K hD cw_back ml_RL_402 (tl_back_ok _ K.q.nt hD.1 σ (xs (n + 1)) j e0 ad τ eI) rfl rfl (by decide) (Nat.le_of_ble_eq_true rfl) (Nat.le_of_ble_eq_true rfl) h1 h2 dL_law_5006 (fun I' hI' hD' => ?_)
    cases hI'
    refine z_istore5 (pc := 5009) K.z dL_law_5009 rfl (by decide) ?_
    refine z_aload2 (pc := 5011) K.z dL_law_5011 ?_
    refine z_ar (pc := 5012) 1 K hn dL_law_5012 dL_law_5013 dL_law_5015 dL_law_5016 dL_law_5017 (by decide) (by decide) ?_
    refine z_lM (pc := 5018) (As := [.int (xs (n + 1))]) K hD' ca_yX4_back ml_RL_404 rfl (t_X4_back _ K.q.nt hD'.2.1 μ (xs (n + 1)) ((τ.1 0 0), u1) hm) rfl rfl (by decide) (Nat.le_of_ble_eq_true rfl) (Nat.le_of_ble_eq_true rfl) h1 h2 dL_law_5018 ?_
    exact z_tI (pc := 5021) K hD' hR.out hk (fun _ => sL_out) h1 h2 dL_law_5021 dL_law_5023 dL_law_5024 dL_law_5027 dL_law_5029 dL_law_5034 dL_law_5036 dL_law_5039 dL_law_5040 dL_law_5041 dL_law_5042 dL_law_5044 dL_law_5045 dL_law_5046 dL_law_5051 (by decide) kk
