/-! the tables of the small machine: printed by program (wip/whole/gen/gen_tab.py) out of tables_1 and the listing; part 06 holds them against the tables -/
/-! methods: number, name -/
-- 0 PartSongDesk$Copy <init> ()V  frames 2 locals 40
-- 1 PartSongDesk$Copy isLentOf (I)Z  frames 0 locals 0
-- 2 PartSongDesk$Corrections <init> ()V  frames 1 locals 20
-- 3 PartSongDesk$Corrections apply (LPartSongDesk$Tokens;LPartSongDesk$Marks;LPartSongDesk$Tokens;)V  frames 1 locals 26
-- 4 PartSongDesk$Corrections applyOne (ILPartSongDesk$Tokens;LPartSongDesk$Tokens;)V  frames 0 locals 0
-- 5 PartSongDesk$Corrections isValue (II)Z  frames 1 locals 21
-- 6 PartSongDesk$Corrections isLength (I)Z  frames 0 locals 0
-- 7 PartSongDesk$Corrections isFor (II)Z  frames 0 locals 0
-- 8 PartSongDesk$Corrections add (III)I  frames 0 locals 0
-- 9 PartSongDesk$Grammar <init> ()V  frames 1 locals 20
-- 10 PartSongDesk$Grammar check (LPartSongDesk$Tokens;)V  frames 3 locals 65
-- 11 PartSongDesk$Grammar headerFault (LPartSongDesk$Tokens;I)I  frames 0 locals 0
-- 12 PartSongDesk$Grammar bodyFault (LPartSongDesk$Tokens;I)I  frames 2 locals 43
-- 13 PartSongDesk$Grammar openRepeat (I)I  frames 1 locals 20
-- 14 PartSongDesk$Grammar isBehindEnding ()Z  frames 0 locals 0
-- 15 PartSongDesk$Grammar closeRepeat (LPartSongDesk$Tokens;I)I  frames 0 locals 0
-- 16 PartSongDesk$Grammar openEnding (LPartSongDesk$Tokens;I)I  frames 0 locals 0
-- 17 PartSongDesk$Grammar closeEnding (LPartSongDesk$Tokens;I)I  frames 1 locals 21
-- 18 PartSongDesk$Learning <init> ()V  frames 1 locals 20
-- 19 PartSongDesk$Learning learn (IILPartSongDesk$Music;I)V  frames 3 locals 67
-- 20 PartSongDesk$Learning indexOf (III)I  frames 0 locals 0
-- 21 PartSongDesk$Learning knows (IILPartSongDesk$Music;I)Z  frames 2 locals 42
-- 22 PartSongDesk$Learning timesOf (III)I  frames 1 locals 23
-- 23 PartSongDesk$Learning learnedOtherwise (IILPartSongDesk$Music;)I  frames 3 locals 67
-- 24 PartSongDesk$Learning knowsAll (IILPartSongDesk$Music;)Z  frames 3 locals 67
-- 25 PartSongDesk$Marks <init> ()V  frames 1 locals 20
-- 26 PartSongDesk$Marks become (LPartSongDesk$Marks;)V  frames 0 locals 0
-- 27 PartSongDesk$Marks takeIn (LPartSongDesk$Marks;)I  frames 1 locals 21
-- 28 PartSongDesk$Marks add (I)V  frames 0 locals 0
-- 29 PartSongDesk$Music <init> ()V  frames 1 locals 20
-- 30 PartSongDesk$Music has (I)Z  frames 0 locals 0
-- 31 PartSongDesk$Music earlyTicks (I)J  frames 1 locals 21
-- 32 PartSongDesk$Music lateTicks (I)J  frames 1 locals 21
-- 33 PartSongDesk$Music clear (I)V  frames 0 locals 0
-- 34 PartSongDesk$Music fail (II)V  frames 0 locals 0
-- 35 PartSongDesk$Music add ([II)V  frames 0 locals 0
-- 36 PartSongDesk$Music pitchAt (II)I  frames 3 locals 66
-- 37 PartSongDesk$Music soundAt (II)I  frames 2 locals 42
-- 38 PartSongDesk$Music noteBeginsAt (II)Z  frames 3 locals 66
-- 39 PartSongDesk$Music barsUnlike (LPartSongDesk$Music;)I  frames 2 locals 42
-- 40 PartSongDesk$Music clashesWith (LPartSongDesk$Music;II)I  frames 4 locals 89
-- 41 PartSongDesk$Music isHarsh (I)Z  frames 1 locals 20
-- 42 PartSongDesk$Music isEvenWith (LPartSongDesk$Music;)Z  frames 0 locals 0
-- 43 PartSongDesk$Part <init> ()V  frames 2 locals 40
-- 44 PartSongDesk$Part isHeld ()Z  frames 0 locals 0
-- 45 PartSongDesk$Reader <init> ()V  frames 1 locals 20
-- 46 PartSongDesk$Reader readAll ([CILPartSongDesk$Tokens;)V  frames 4 locals 96
-- 47 PartSongDesk$Reader passSpaces ()V  frames 1 locals 22
-- 48 PartSongDesk$Reader letterAt (I)C  frames 0 locals 0
-- 49 PartSongDesk$Reader readOne (LPartSongDesk$Tokens;)Z  frames 3 locals 75
-- 50 PartSongDesk$Reader readClef (LPartSongDesk$Tokens;)Z  frames 2 locals 47
-- 51 PartSongDesk$Reader take (LPartSongDesk$Tokens;III)Z  frames 1 locals 23
-- 52 PartSongDesk$Reader readKey (LPartSongDesk$Tokens;I)Z  frames 2 locals 47
-- 53 PartSongDesk$Reader digitAt (I)I  frames 1 locals 22
-- 54 PartSongDesk$Reader readMeter (LPartSongDesk$Tokens;)Z  frames 2 locals 47
-- 55 PartSongDesk$Reader readRest (LPartSongDesk$Tokens;)Z  frames 2 locals 47
-- 56 PartSongDesk$Reader ticksOf (CC)I  frames 1 locals 21
-- 57 PartSongDesk$Reader plainTicksOf (C)I  frames 0 locals 0
-- 58 PartSongDesk$Reader isDotted (CC)Z  frames 1 locals 21
-- 59 PartSongDesk$Reader readClose (LPartSongDesk$Tokens;)Z  frames 2 locals 47
-- 60 PartSongDesk$Reader readFirstOf (LPartSongDesk$Tokens;)Z  frames 2 locals 47
-- 61 PartSongDesk$Reader readNote (LPartSongDesk$Tokens;)Z  frames 2 locals 47
-- 62 PartSongDesk$Reader signOf (C)I  frames 0 locals 0
-- 63 PartSongDesk$Rehearsals <init> ()V  frames 1 locals 20
-- 64 PartSongDesk$Rehearsals beginDay ()I  frames 0 locals 0
-- 65 PartSongDesk$Rehearsals give (II)Z  frames 1 locals 20
-- 66 PartSongDesk$Rehearsals add (IIII)I  frames 0 locals 0
-- 67 PartSongDesk$Singing <init> ()V  frames 2 locals 40
-- 68 PartSongDesk$Singing sing (LPartSongDesk$Tokens;LPartSongDesk$Marks;LPartSongDesk$Corrections;LPartSongDesk$Music;)V  frames 4 locals 94
-- 69 PartSongDesk$Singing begin ()V  frames 1 locals 23
-- 70 PartSongDesk$Singing findSteps ()V  frames 0 locals 0
-- 71 PartSongDesk$Singing singToken (LPartSongDesk$Music;)V  frames 3 locals 73
-- 72 PartSongDesk$Singing singNote (LPartSongDesk$Music;)V  frames 2 locals 47
-- 73 PartSongDesk$Singing changeOf (II)I  frames 1 locals 22
-- 74 PartSongDesk$Singing changeBySign (I)I  frames 0 locals 0
-- 75 PartSongDesk$Singing changeByKey (I)I  frames 0 locals 0
-- 76 PartSongDesk$Singing failTie (LPartSongDesk$Music;)V  frames 1 locals 22
-- 77 PartSongDesk$Singing fill (LPartSongDesk$Music;II)Z  frames 1 locals 22
-- 78 PartSongDesk$Singing singRest (LPartSongDesk$Music;)V  frames 2 locals 47
-- 79 PartSongDesk$Singing endBar (LPartSongDesk$Music;I)V  frames 1 locals 24
-- 80 PartSongDesk$Singing openRepeat ()V  frames 0 locals 0
-- 81 PartSongDesk$Singing closeRepeat ()V  frames 1 locals 21
-- 82 PartSongDesk$Singing finish (LPartSongDesk$Music;)V  frames 2 locals 46
-- 83 PartSongDesk$Tokens <init> ()V  frames 1 locals 20
-- 84 PartSongDesk$Tokens clear (I)V  frames 0 locals 0
-- 85 PartSongDesk$Tokens add (III)V  frames 0 locals 0
-- 86 PartSongDesk$Tokens has (I)Z  frames 0 locals 0
-- 87 PartSongDesk$Tokens fail (II)V  frames 0 locals 0
-- 88 PartSongDesk$Tokens become (LPartSongDesk$Tokens;)V  frames 0 locals 0
-- 89 PartSongDesk <init> ()V  frames 3 locals 60
-- 90 PartSongDesk day ()I  frames 1 locals 22
-- 91 PartSongDesk plan ()I  frames 6 locals 139
-- 92 PartSongDesk rehearse (I)Z  frames 5 locals 116
-- 93 PartSongDesk isSungFrom (LPartSongDesk$Copy;I)Z  frames 1 locals 21
-- 94 PartSongDesk learnFrom (LPartSongDesk$Copy;II)V  frames 4 locals 92
-- 95 PartSongDesk concerts ()I  frames 0 locals 0
-- 96 PartSongDesk write (IIC)I  frames 7 locals 112
-- 97 PartSongDesk partOf (II)LPartSongDesk$Part;  frames 6 locals 90
-- 98 PartSongDesk strike (III)I  frames 7 locals 112
-- 99 PartSongDesk error (II)I  frames 8 locals 165
-- 100 PartSongDesk readPart (II)LPartSongDesk$Part;  frames 7 locals 142
-- 101 PartSongDesk readText (LPartSongDesk$Part;LPartSongDesk$Tokens;)V  frames 5 locals 120
-- 102 PartSongDesk errorAt (II)I  frames 8 locals 165
-- 103 PartSongDesk tokens (II)I  frames 8 locals 165
-- 104 PartSongDesk token (III)I  frames 8 locals 165
-- 105 PartSongDesk bars (II)I  frames 8 locals 165
-- 106 PartSongDesk pitch (IIII)I  frames 8 locals 165
-- 107 PartSongDesk mustHave (LPartSongDesk$Music;II)V  frames 6 locals 90
-- 108 PartSongDesk seconds (III)F  frames 8 locals 165
-- 109 PartSongDesk print (II)I  frames 8 locals 165
-- 110 PartSongDesk singCopy (LPartSongDesk$Copy;)V  frames 5 locals 119
-- 111 PartSongDesk lend (II)I  frames 7 locals 140
-- 112 PartSongDesk copyOf (I)LPartSongDesk$Copy;  frames 6 locals 90
-- 113 PartSongDesk hasCopyOf (II)Z  frames 0 locals 0
-- 114 PartSongDesk back (I)I  frames 7 locals 142
-- 115 PartSongDesk takeBack (LPartSongDesk$Copy;)I  frames 5 locals 119
-- 116 PartSongDesk pencil (IIII)I  frames 7 locals 140
-- 117 PartSongDesk holder (I)I  frames 7 locals 111
-- 118 PartSongDesk copyError (I)I  frames 7 locals 111
-- 119 PartSongDesk copyPitch (III)I  frames 7 locals 113
-- 120 PartSongDesk copyPitchAnew (III)I  frames 7 locals 142
-- 121 PartSongDesk begins (III)Z  frames 7 locals 113
-- 122 PartSongDesk differ (II)I  frames 7 locals 111
-- 123 PartSongDesk clashes (II)I  frames 7 locals 145
-- 124 PartSongDesk mustBePiece (I)V  frames 6 locals 90
-- 125 PartSongDesk clashesIn (III)I  frames 5 locals 116
-- 126 PartSongDesk isOfUnlikeLengths (II)Z  frames 1 locals 21
-- 127 PartSongDesk isOfUnlikeTicks (II)Z  frames 1 locals 21
-- 128 PartSongDesk clashesOf (II)I  frames 7 locals 145
-- 129 PartSongDesk room (II)I  frames 6 locals 90
-- 130 PartSongDesk ask (IIII)I  frames 7 locals 111
-- 131 PartSongDesk done (I)I  frames 6 locals 90
-- 132 PartSongDesk learned (IIII)I  frames 7 locals 113
-- 133 PartSongDesk mustBeSingerAndPart (III)V  frames 6 locals 90
-- 134 PartSongDesk misled (III)I  frames 7 locals 113
-- 135 PartSongDesk judge (I)I  frames 7 locals 134
-- 136 PartSongDesk verdictOn (I)I  frames 5 locals 113
-- 137 PartSongDesk isLentInAllVoices (I)Z  frames 1 locals 21
-- 138 PartSongDesk hasWrongCopy (I)Z  frames 1 locals 21
-- 139 PartSongDesk hasUnlikeCopies (I)Z  frames 3 locals 65
-- 140 PartSongDesk hasUnevenVoices (I)Z  frames 1 locals 21
-- 141 PartSongDesk isLearned (I)Z  frames 4 locals 91
-- 142 PartSongDesk concert (I)I  frames 7 locals 142
-- 143 PartSongDeskModel <init> ()V  frames 1 locals 20
-- 144 PartSongDeskModel thrown ()I  frames 0 locals 0
-- 145 PartSongDeskModel write (IIC)I  frames 2 locals 42
-- 146 PartSongDeskModel isPart (II)Z  frames 1 locals 21
-- 147 PartSongDeskModel isBelow (II)Z  frames 0 locals 0
-- 148 PartSongDeskModel isWithin (III)Z  frames 0 locals 0
-- 149 PartSongDeskModel isPrinted (I)Z  frames 0 locals 0
-- 150 PartSongDeskModel goes (ZZZ)Z  frames 0 locals 0
-- 151 PartSongDeskModel strike (III)I  frames 2 locals 42
-- 152 PartSongDeskModel error (II)I  frames 6 locals 144
-- 153 PartSongDeskModel music (III)I  frames 5 locals 121
-- 154 PartSongDeskModel lex (I)V  frames 4 locals 98
-- 155 PartSongDeskModel at (II)I  frames 0 locals 0
-- 156 PartSongDeskModel readToken (II)I  frames 3 locals 74
-- 157 PartSongDeskModel is (III)I  frames 0 locals 0
-- 158 PartSongDeskModel isFigure (III)Z  frames 0 locals 0
-- 159 PartSongDeskModel readMeter (II)I  frames 1 locals 23
-- 160 PartSongDeskModel readRest (II)I  frames 2 locals 45
-- 161 PartSongDeskModel readLength (II)I  frames 1 locals 22
-- 162 PartSongDeskModel readNote (II)I  frames 2 locals 45
-- 163 PartSongDeskModel parse ()V  frames 1 locals 25
-- 164 PartSongDeskModel faultOf (I)I  frames 0 locals 0
-- 165 PartSongDeskModel follows (I)V  frames 0 locals 0
-- 166 PartSongDeskModel corrects (I)V  frames 0 locals 0
-- 167 PartSongDeskModel sings (I)V  frames 3 locals 75
-- 168 PartSongDeskModel forgets ()V  frames 0 locals 0
-- 169 PartSongDeskModel singsNote (I)V  frames 2 locals 46
-- 170 PartSongDeskModel changeOf (I)I  frames 0 locals 0
-- 171 PartSongDeskModel keyChange (I)I  frames 0 locals 0
-- 172 PartSongDeskModel pitchOf (II)I  frames 0 locals 0
-- 173 PartSongDeskModel fails (II)V  frames 0 locals 0
-- 174 PartSongDeskModel fills (IIZ)V  frames 1 locals 22
-- 175 PartSongDeskModel singsBar (II)V  frames 2 locals 53
-- 176 PartSongDeskModel endsBar (II)V  frames 1 locals 22
-- 177 PartSongDeskModel goesOn (I)I  frames 0 locals 0
-- 178 PartSongDeskModel endsAll (I)V  frames 2 locals 53
-- 179 PartSongDeskModel errorAt (II)I  frames 6 locals 144
-- 180 PartSongDeskModel tokens (II)I  frames 5 locals 121
-- 181 PartSongDeskModel token (III)I  frames 5 locals 121
-- 182 PartSongDeskModel bars (II)I  frames 7 locals 166
-- 183 PartSongDeskModel libraryMusic (II)I  frames 6 locals 144
-- 184 PartSongDeskModel pitch (IIII)I  frames 7 locals 166
-- 185 PartSongDeskModel pitchAt (III)I  frames 0 locals 0
-- 186 PartSongDeskModel seconds (III)F  frames 7 locals 166
-- 187 PartSongDeskModel print (II)I  frames 6 locals 144
-- 188 PartSongDeskModel lend (II)I  frames 2 locals 45
-- 189 PartSongDeskModel isCopy (I)Z  frames 1 locals 21
-- 190 PartSongDeskModel pieceOf (I)I  frames 0 locals 0
-- 191 PartSongDeskModel copyOf (II)I  frames 1 locals 21
-- 192 PartSongDeskModel back (I)I  frames 2 locals 42
-- 193 PartSongDeskModel comesBack (I)I  frames 0 locals 0
-- 194 PartSongDeskModel pencil (IIII)I  frames 5 locals 121
-- 195 PartSongDeskModel isValue (II)Z  frames 1 locals 22
-- 196 PartSongDeskModel holder (I)I  frames 2 locals 42
-- 197 PartSongDeskModel copyError (I)I  frames 7 locals 166
-- 198 PartSongDeskModel copyMusic (II)I  frames 6 locals 144
-- 199 PartSongDeskModel copyPitch (III)I  frames 8 locals 190
-- 200 PartSongDeskModel isTick (III)Z  frames 7 locals 166
-- 201 PartSongDeskModel copyPitchAnew (III)I  frames 9 locals 213
-- 202 PartSongDeskModel begins (III)Z  frames 8 locals 190
-- 203 PartSongDeskModel beginsAt (III)Z  frames 0 locals 0
-- 204 PartSongDeskModel differ (II)I  frames 7 locals 166
-- 205 PartSongDeskModel unlike (II)I  frames 1 locals 25
-- 206 PartSongDeskModel areAlike (III)Z  frames 0 locals 0
-- 207 PartSongDeskModel clashes (II)I  frames 8 locals 189
-- 208 PartSongDeskModel singsPiece (I)V  frames 7 locals 166
-- 209 PartSongDeskModel clashesAt (II)I  frames 2 locals 52
-- 210 PartSongDeskModel harshAt (IIII)I  frames 1 locals 26
-- 211 PartSongDeskModel clashesOf (II)I  frames 8 locals 189
-- 212 PartSongDeskModel day ()I  frames 0 locals 0
-- 213 PartSongDeskModel room (II)I  frames 1 locals 23
-- 214 PartSongDeskModel ask (IIII)I  frames 1 locals 23
-- 215 PartSongDeskModel plan ()I  frames 9 locals 216
-- 216 PartSongDeskModel finds (I)I  frames 7 locals 166
-- 217 PartSongDeskModel isFree (III)Z  frames 0 locals 0
-- 218 PartSongDeskModel rehearses (III)V  frames 8 locals 192
-- 219 PartSongDeskModel learns (IIII)V  frames 7 locals 166
-- 220 PartSongDeskModel isKnown (IIII)Z  frames 0 locals 0
-- 221 PartSongDeskModel done (I)I  frames 1 locals 23
-- 222 PartSongDeskModel learned (IIII)I  frames 2 locals 42
-- 223 PartSongDeskModel misled (III)I  frames 7 locals 166
-- 224 PartSongDeskModel judge (I)I  frames 9 locals 213
-- 225 PartSongDeskModel judged (I)I  frames 8 locals 189
-- 226 PartSongDeskModel firstLent (I)I  frames 0 locals 0
-- 227 PartSongDeskModel compares (I)I  frames 7 locals 166
-- 228 PartSongDeskModel isUnlearned (I)Z  frames 7 locals 166
-- 229 PartSongDeskModel concert (I)I  frames 9 locals 213
-- 230 PartSongDeskModel concerts ()I  frames 0 locals 0
-- 231 java/lang/Math max (II)I  frames 0 locals 0
-- 232 java/lang/Math min (II)I  frames 0 locals 0
-- 233 java/lang/Math floorMod (II)I  frames 0 locals 0
-- 234 java/lang/Math abs (I)I  frames 0 locals 0
-- 235 java/lang/Integer bitCount (I)I  frames 0 locals 0
-- 236 java/util/Arrays fill ([II)V  frames 0 locals 0
def zyL : List MethodName := [⟨"PartSongDesk$Copy", "<init>", "()V"⟩, ⟨"PartSongDesk$Copy", "isLentOf", "(I)Z"⟩, ⟨"PartSongDesk$Corrections", "<init>", "()V"⟩, ⟨"PartSongDesk$Corrections", "apply", "(LPartSongDesk$Tokens;LPartSongDesk$Marks;LPartSongDesk$Tokens;)V"⟩, ⟨"PartSongDesk$Corrections", "applyOne", "(ILPartSongDesk$Tokens;LPartSongDesk$Tokens;)V"⟩, ⟨"PartSongDesk$Corrections", "isValue", "(II)Z"⟩, ⟨"PartSongDesk$Corrections", "isLength", "(I)Z"⟩, ⟨"PartSongDesk$Corrections", "isFor", "(II)Z"⟩, ⟨"PartSongDesk$Corrections", "add", "(III)I"⟩, ⟨"PartSongDesk$Grammar", "<init>", "()V"⟩, ⟨"PartSongDesk$Grammar", "check", "(LPartSongDesk$Tokens;)V"⟩, ⟨"PartSongDesk$Grammar", "headerFault", "(LPartSongDesk$Tokens;I)I"⟩, ⟨"PartSongDesk$Grammar", "bodyFault", "(LPartSongDesk$Tokens;I)I"⟩, ⟨"PartSongDesk$Grammar", "openRepeat", "(I)I"⟩, ⟨"PartSongDesk$Grammar", "isBehindEnding", "()Z"⟩, ⟨"PartSongDesk$Grammar", "closeRepeat", "(LPartSongDesk$Tokens;I)I"⟩, ⟨"PartSongDesk$Grammar", "openEnding", "(LPartSongDesk$Tokens;I)I"⟩, ⟨"PartSongDesk$Grammar", "closeEnding", "(LPartSongDesk$Tokens;I)I"⟩, ⟨"PartSongDesk$Learning", "<init>", "()V"⟩, ⟨"PartSongDesk$Learning", "learn", "(IILPartSongDesk$Music;I)V"⟩, ⟨"PartSongDesk$Learning", "indexOf", "(III)I"⟩, ⟨"PartSongDesk$Learning", "knows", "(IILPartSongDesk$Music;I)Z"⟩, ⟨"PartSongDesk$Learning", "timesOf", "(III)I"⟩, ⟨"PartSongDesk$Learning", "learnedOtherwise", "(IILPartSongDesk$Music;)I"⟩, ⟨"PartSongDesk$Learning", "knowsAll", "(IILPartSongDesk$Music;)Z"⟩, ⟨"PartSongDesk$Marks", "<init>", "()V"⟩, ⟨"PartSongDesk$Marks", "become", "(LPartSongDesk$Marks;)V"⟩, ⟨"PartSongDesk$Marks", "takeIn", "(LPartSongDesk$Marks;)I"⟩, ⟨"PartSongDesk$Marks", "add", "(I)V"⟩, ⟨"PartSongDesk$Music", "<init>", "()V"⟩, ⟨"PartSongDesk$Music", "has", "(I)Z"⟩, ⟨"PartSongDesk$Music", "earlyTicks", "(I)J"⟩, ⟨"PartSongDesk$Music", "lateTicks", "(I)J"⟩, ⟨"PartSongDesk$Music", "clear", "(I)V"⟩, ⟨"PartSongDesk$Music", "fail", "(II)V"⟩, ⟨"PartSongDesk$Music", "add", "([II)V"⟩, ⟨"PartSongDesk$Music", "pitchAt", "(II)I"⟩, ⟨"PartSongDesk$Music", "soundAt", "(II)I"⟩, ⟨"PartSongDesk$Music", "noteBeginsAt", "(II)Z"⟩, ⟨"PartSongDesk$Music", "barsUnlike", "(LPartSongDesk$Music;)I"⟩, ⟨"PartSongDesk$Music", "clashesWith", "(LPartSongDesk$Music;II)I"⟩, ⟨"PartSongDesk$Music", "isHarsh", "(I)Z"⟩, ⟨"PartSongDesk$Music", "isEvenWith", "(LPartSongDesk$Music;)Z"⟩, ⟨"PartSongDesk$Part", "<init>", "()V"⟩, ⟨"PartSongDesk$Part", "isHeld", "()Z"⟩, ⟨"PartSongDesk$Reader", "<init>", "()V"⟩, ⟨"PartSongDesk$Reader", "readAll", "([CILPartSongDesk$Tokens;)V"⟩, ⟨"PartSongDesk$Reader", "passSpaces", "()V"⟩, ⟨"PartSongDesk$Reader", "letterAt", "(I)C"⟩, ⟨"PartSongDesk$Reader", "readOne", "(LPartSongDesk$Tokens;)Z"⟩, ⟨"PartSongDesk$Reader", "readClef", "(LPartSongDesk$Tokens;)Z"⟩, ⟨"PartSongDesk$Reader", "take", "(LPartSongDesk$Tokens;III)Z"⟩, ⟨"PartSongDesk$Reader", "readKey", "(LPartSongDesk$Tokens;I)Z"⟩, ⟨"PartSongDesk$Reader", "digitAt", "(I)I"⟩, ⟨"PartSongDesk$Reader", "readMeter", "(LPartSongDesk$Tokens;)Z"⟩, ⟨"PartSongDesk$Reader", "readRest", "(LPartSongDesk$Tokens;)Z"⟩, ⟨"PartSongDesk$Reader", "ticksOf", "(CC)I"⟩, ⟨"PartSongDesk$Reader", "plainTicksOf", "(C)I"⟩, ⟨"PartSongDesk$Reader", "isDotted", "(CC)Z"⟩, ⟨"PartSongDesk$Reader", "readClose", "(LPartSongDesk$Tokens;)Z"⟩, ⟨"PartSongDesk$Reader", "readFirstOf", "(LPartSongDesk$Tokens;)Z"⟩, ⟨"PartSongDesk$Reader", "readNote", "(LPartSongDesk$Tokens;)Z"⟩, ⟨"PartSongDesk$Reader", "signOf", "(C)I"⟩, ⟨"PartSongDesk$Rehearsals", "<init>", "()V"⟩, ⟨"PartSongDesk$Rehearsals", "beginDay", "()I"⟩, ⟨"PartSongDesk$Rehearsals", "give", "(II)Z"⟩, ⟨"PartSongDesk$Rehearsals", "add", "(IIII)I"⟩, ⟨"PartSongDesk$Singing", "<init>", "()V"⟩, ⟨"PartSongDesk$Singing", "sing", "(LPartSongDesk$Tokens;LPartSongDesk$Marks;LPartSongDesk$Corrections;LPartSongDesk$Music;)V"⟩, ⟨"PartSongDesk$Singing", "begin", "()V"⟩, ⟨"PartSongDesk$Singing", "findSteps", "()V"⟩, ⟨"PartSongDesk$Singing", "singToken", "(LPartSongDesk$Music;)V"⟩, ⟨"PartSongDesk$Singing", "singNote", "(LPartSongDesk$Music;)V"⟩, ⟨"PartSongDesk$Singing", "changeOf", "(II)I"⟩, ⟨"PartSongDesk$Singing", "changeBySign", "(I)I"⟩, ⟨"PartSongDesk$Singing", "changeByKey", "(I)I"⟩, ⟨"PartSongDesk$Singing", "failTie", "(LPartSongDesk$Music;)V"⟩, ⟨"PartSongDesk$Singing", "fill", "(LPartSongDesk$Music;II)Z"⟩, ⟨"PartSongDesk$Singing", "singRest", "(LPartSongDesk$Music;)V"⟩, ⟨"PartSongDesk$Singing", "endBar", "(LPartSongDesk$Music;I)V"⟩, ⟨"PartSongDesk$Singing", "openRepeat", "()V"⟩, ⟨"PartSongDesk$Singing", "closeRepeat", "()V"⟩, ⟨"PartSongDesk$Singing", "finish", "(LPartSongDesk$Music;)V"⟩, ⟨"PartSongDesk$Tokens", "<init>", "()V"⟩, ⟨"PartSongDesk$Tokens", "clear", "(I)V"⟩, ⟨"PartSongDesk$Tokens", "add", "(III)V"⟩, ⟨"PartSongDesk$Tokens", "has", "(I)Z"⟩, ⟨"PartSongDesk$Tokens", "fail", "(II)V"⟩, ⟨"PartSongDesk$Tokens", "become", "(LPartSongDesk$Tokens;)V"⟩, ⟨"PartSongDesk", "<init>", "()V"⟩, ⟨"PartSongDesk", "day", "()I"⟩, ⟨"PartSongDesk", "plan", "()I"⟩, ⟨"PartSongDesk", "rehearse", "(I)Z"⟩, ⟨"PartSongDesk", "isSungFrom", "(LPartSongDesk$Copy;I)Z"⟩, ⟨"PartSongDesk", "learnFrom", "(LPartSongDesk$Copy;II)V"⟩, ⟨"PartSongDesk", "concerts", "()I"⟩, ⟨"PartSongDesk", "write", "(IIC)I"⟩, ⟨"PartSongDesk", "partOf", "(II)LPartSongDesk$Part;"⟩, ⟨"PartSongDesk", "strike", "(III)I"⟩, ⟨"PartSongDesk", "error", "(II)I"⟩, ⟨"PartSongDesk", "readPart", "(II)LPartSongDesk$Part;"⟩, ⟨"PartSongDesk", "readText", "(LPartSongDesk$Part;LPartSongDesk$Tokens;)V"⟩, ⟨"PartSongDesk", "errorAt", "(II)I"⟩, ⟨"PartSongDesk", "tokens", "(II)I"⟩, ⟨"PartSongDesk", "token", "(III)I"⟩, ⟨"PartSongDesk", "bars", "(II)I"⟩, ⟨"PartSongDesk", "pitch", "(IIII)I"⟩, ⟨"PartSongDesk", "mustHave", "(LPartSongDesk$Music;II)V"⟩, ⟨"PartSongDesk", "seconds", "(III)F"⟩, ⟨"PartSongDesk", "print", "(II)I"⟩, ⟨"PartSongDesk", "singCopy", "(LPartSongDesk$Copy;)V"⟩, ⟨"PartSongDesk", "lend", "(II)I"⟩, ⟨"PartSongDesk", "copyOf", "(I)LPartSongDesk$Copy;"⟩, ⟨"PartSongDesk", "hasCopyOf", "(II)Z"⟩, ⟨"PartSongDesk", "back", "(I)I"⟩, ⟨"PartSongDesk", "takeBack", "(LPartSongDesk$Copy;)I"⟩, ⟨"PartSongDesk", "pencil", "(IIII)I"⟩, ⟨"PartSongDesk", "holder", "(I)I"⟩, ⟨"PartSongDesk", "copyError", "(I)I"⟩, ⟨"PartSongDesk", "copyPitch", "(III)I"⟩, ⟨"PartSongDesk", "copyPitchAnew", "(III)I"⟩, ⟨"PartSongDesk", "begins", "(III)Z"⟩, ⟨"PartSongDesk", "differ", "(II)I"⟩, ⟨"PartSongDesk", "clashes", "(II)I"⟩, ⟨"PartSongDesk", "mustBePiece", "(I)V"⟩, ⟨"PartSongDesk", "clashesIn", "(III)I"⟩, ⟨"PartSongDesk", "isOfUnlikeLengths", "(II)Z"⟩, ⟨"PartSongDesk", "isOfUnlikeTicks", "(II)Z"⟩, ⟨"PartSongDesk", "clashesOf", "(II)I"⟩, ⟨"PartSongDesk", "room", "(II)I"⟩, ⟨"PartSongDesk", "ask", "(IIII)I"⟩, ⟨"PartSongDesk", "done", "(I)I"⟩, ⟨"PartSongDesk", "learned", "(IIII)I"⟩, ⟨"PartSongDesk", "mustBeSingerAndPart", "(III)V"⟩, ⟨"PartSongDesk", "misled", "(III)I"⟩, ⟨"PartSongDesk", "judge", "(I)I"⟩, ⟨"PartSongDesk", "verdictOn", "(I)I"⟩, ⟨"PartSongDesk", "isLentInAllVoices", "(I)Z"⟩, ⟨"PartSongDesk", "hasWrongCopy", "(I)Z"⟩, ⟨"PartSongDesk", "hasUnlikeCopies", "(I)Z"⟩, ⟨"PartSongDesk", "hasUnevenVoices", "(I)Z"⟩, ⟨"PartSongDesk", "isLearned", "(I)Z"⟩, ⟨"PartSongDesk", "concert", "(I)I"⟩, ⟨"PartSongDeskModel", "<init>", "()V"⟩, ⟨"PartSongDeskModel", "thrown", "()I"⟩, ⟨"PartSongDeskModel", "write", "(IIC)I"⟩, ⟨"PartSongDeskModel", "isPart", "(II)Z"⟩, ⟨"PartSongDeskModel", "isBelow", "(II)Z"⟩, ⟨"PartSongDeskModel", "isWithin", "(III)Z"⟩, ⟨"PartSongDeskModel", "isPrinted", "(I)Z"⟩, ⟨"PartSongDeskModel", "goes", "(ZZZ)Z"⟩, ⟨"PartSongDeskModel", "strike", "(III)I"⟩, ⟨"PartSongDeskModel", "error", "(II)I"⟩, ⟨"PartSongDeskModel", "music", "(III)I"⟩, ⟨"PartSongDeskModel", "lex", "(I)V"⟩, ⟨"PartSongDeskModel", "at", "(II)I"⟩, ⟨"PartSongDeskModel", "readToken", "(II)I"⟩, ⟨"PartSongDeskModel", "is", "(III)I"⟩, ⟨"PartSongDeskModel", "isFigure", "(III)Z"⟩, ⟨"PartSongDeskModel", "readMeter", "(II)I"⟩, ⟨"PartSongDeskModel", "readRest", "(II)I"⟩, ⟨"PartSongDeskModel", "readLength", "(II)I"⟩, ⟨"PartSongDeskModel", "readNote", "(II)I"⟩, ⟨"PartSongDeskModel", "parse", "()V"⟩, ⟨"PartSongDeskModel", "faultOf", "(I)I"⟩, ⟨"PartSongDeskModel", "follows", "(I)V"⟩, ⟨"PartSongDeskModel", "corrects", "(I)V"⟩, ⟨"PartSongDeskModel", "sings", "(I)V"⟩, ⟨"PartSongDeskModel", "forgets", "()V"⟩, ⟨"PartSongDeskModel", "singsNote", "(I)V"⟩, ⟨"PartSongDeskModel", "changeOf", "(I)I"⟩, ⟨"PartSongDeskModel", "keyChange", "(I)I"⟩, ⟨"PartSongDeskModel", "pitchOf", "(II)I"⟩, ⟨"PartSongDeskModel", "fails", "(II)V"⟩, ⟨"PartSongDeskModel", "fills", "(IIZ)V"⟩, ⟨"PartSongDeskModel", "singsBar", "(II)V"⟩, ⟨"PartSongDeskModel", "endsBar", "(II)V"⟩, ⟨"PartSongDeskModel", "goesOn", "(I)I"⟩, ⟨"PartSongDeskModel", "endsAll", "(I)V"⟩, ⟨"PartSongDeskModel", "errorAt", "(II)I"⟩, ⟨"PartSongDeskModel", "tokens", "(II)I"⟩, ⟨"PartSongDeskModel", "token", "(III)I"⟩, ⟨"PartSongDeskModel", "bars", "(II)I"⟩, ⟨"PartSongDeskModel", "libraryMusic", "(II)I"⟩, ⟨"PartSongDeskModel", "pitch", "(IIII)I"⟩, ⟨"PartSongDeskModel", "pitchAt", "(III)I"⟩, ⟨"PartSongDeskModel", "seconds", "(III)F"⟩, ⟨"PartSongDeskModel", "print", "(II)I"⟩, ⟨"PartSongDeskModel", "lend", "(II)I"⟩, ⟨"PartSongDeskModel", "isCopy", "(I)Z"⟩, ⟨"PartSongDeskModel", "pieceOf", "(I)I"⟩, ⟨"PartSongDeskModel", "copyOf", "(II)I"⟩, ⟨"PartSongDeskModel", "back", "(I)I"⟩, ⟨"PartSongDeskModel", "comesBack", "(I)I"⟩, ⟨"PartSongDeskModel", "pencil", "(IIII)I"⟩, ⟨"PartSongDeskModel", "isValue", "(II)Z"⟩, ⟨"PartSongDeskModel", "holder", "(I)I"⟩, ⟨"PartSongDeskModel", "copyError", "(I)I"⟩, ⟨"PartSongDeskModel", "copyMusic", "(II)I"⟩, ⟨"PartSongDeskModel", "copyPitch", "(III)I"⟩, ⟨"PartSongDeskModel", "isTick", "(III)Z"⟩, ⟨"PartSongDeskModel", "copyPitchAnew", "(III)I"⟩, ⟨"PartSongDeskModel", "begins", "(III)Z"⟩, ⟨"PartSongDeskModel", "beginsAt", "(III)Z"⟩, ⟨"PartSongDeskModel", "differ", "(II)I"⟩, ⟨"PartSongDeskModel", "unlike", "(II)I"⟩, ⟨"PartSongDeskModel", "areAlike", "(III)Z"⟩, ⟨"PartSongDeskModel", "clashes", "(II)I"⟩, ⟨"PartSongDeskModel", "singsPiece", "(I)V"⟩, ⟨"PartSongDeskModel", "clashesAt", "(II)I"⟩, ⟨"PartSongDeskModel", "harshAt", "(IIII)I"⟩, ⟨"PartSongDeskModel", "clashesOf", "(II)I"⟩, ⟨"PartSongDeskModel", "day", "()I"⟩, ⟨"PartSongDeskModel", "room", "(II)I"⟩, ⟨"PartSongDeskModel", "ask", "(IIII)I"⟩, ⟨"PartSongDeskModel", "plan", "()I"⟩, ⟨"PartSongDeskModel", "finds", "(I)I"⟩, ⟨"PartSongDeskModel", "isFree", "(III)Z"⟩, ⟨"PartSongDeskModel", "rehearses", "(III)V"⟩, ⟨"PartSongDeskModel", "learns", "(IIII)V"⟩, ⟨"PartSongDeskModel", "isKnown", "(IIII)Z"⟩, ⟨"PartSongDeskModel", "done", "(I)I"⟩, ⟨"PartSongDeskModel", "learned", "(IIII)I"⟩, ⟨"PartSongDeskModel", "misled", "(III)I"⟩, ⟨"PartSongDeskModel", "judge", "(I)I"⟩, ⟨"PartSongDeskModel", "judged", "(I)I"⟩, ⟨"PartSongDeskModel", "firstLent", "(I)I"⟩, ⟨"PartSongDeskModel", "compares", "(I)I"⟩, ⟨"PartSongDeskModel", "isUnlearned", "(I)Z"⟩, ⟨"PartSongDeskModel", "concert", "(I)I"⟩, ⟨"PartSongDeskModel", "concerts", "()I"⟩, ⟨"java/lang/Math", "max", "(II)I"⟩, ⟨"java/lang/Math", "min", "(II)I"⟩, ⟨"java/lang/Math", "floorMod", "(II)I"⟩, ⟨"java/lang/Math", "abs", "(I)I"⟩, ⟨"java/lang/Integer", "bitCount", "(I)I"⟩, ⟨"java/util/Arrays", "fill", "([II)V"⟩]
def zbL : List ByteArray := [prog_2_method_1_code, prog_2_method_2_code, prog_3_method_1_code, prog_3_method_6_code, prog_3_method_7_code, prog_3_method_2_code, prog_3_method_3_code, prog_3_method_4_code, prog_3_method_5_code, prog_4_method_1_code, prog_4_method_2_code, prog_4_method_3_code, prog_4_method_4_code, prog_4_method_6_code, prog_4_method_5_code, prog_4_method_7_code, prog_4_method_8_code, prog_4_method_9_code, prog_5_method_1_code, prog_5_method_4_code, prog_5_method_2_code, prog_5_method_5_code, prog_5_method_3_code, prog_5_method_7_code, prog_5_method_6_code, prog_6_method_1_code, prog_6_method_3_code, prog_6_method_4_code, prog_6_method_2_code, prog_7_method_1_code, prog_7_method_4_code, prog_7_method_6_code, prog_7_method_7_code, prog_7_method_2_code, prog_7_method_3_code, prog_7_method_5_code, prog_7_method_9_code, prog_7_method_8_code, prog_7_method_10_code, prog_7_method_11_code, prog_7_method_12_code, prog_7_method_13_code, prog_7_method_14_code, prog_8_method_1_code, prog_8_method_2_code, prog_9_method_1_code, prog_9_method_2_code, prog_9_method_3_code, prog_9_method_4_code, prog_9_method_5_code, prog_9_method_7_code, prog_9_method_6_code, prog_9_method_8_code, prog_9_method_15_code, prog_9_method_9_code, prog_9_method_12_code, prog_9_method_16_code, prog_9_method_18_code, prog_9_method_17_code, prog_9_method_10_code, prog_9_method_11_code, prog_9_method_13_code, prog_9_method_14_code, prog_10_method_1_code, prog_10_method_3_code, prog_10_method_4_code, prog_10_method_2_code, prog_11_method_1_code, prog_11_method_2_code, prog_11_method_3_code, prog_11_method_4_code, prog_11_method_5_code, prog_11_method_8_code, prog_11_method_14_code, prog_11_method_15_code, prog_11_method_16_code, prog_11_method_10_code, prog_11_method_11_code, prog_11_method_9_code, prog_11_method_12_code, prog_11_method_6_code, prog_11_method_7_code, prog_11_method_13_code, prog_12_method_1_code, prog_12_method_3_code, prog_12_method_5_code, prog_12_method_2_code, prog_12_method_4_code, prog_12_method_6_code, prog_1_method_1_code, prog_1_method_23_code, prog_1_method_26_code, prog_1_method_46_code, prog_1_method_47_code, prog_1_method_48_code, prog_1_method_32_code, prog_1_method_2_code, prog_1_method_34_code, prog_1_method_3_code, prog_1_method_4_code, prog_1_method_38_code, prog_1_method_39_code, prog_1_method_5_code, prog_1_method_6_code, prog_1_method_7_code, prog_1_method_8_code, prog_1_method_9_code, prog_1_method_37_code, prog_1_method_10_code, prog_1_method_11_code, prog_1_method_40_code, prog_1_method_12_code, prog_1_method_36_code, prog_1_method_42_code, prog_1_method_13_code, prog_1_method_41_code, prog_1_method_14_code, prog_1_method_15_code, prog_1_method_16_code, prog_1_method_17_code, prog_1_method_18_code, prog_1_method_19_code, prog_1_method_20_code, prog_1_method_21_code, prog_1_method_33_code, prog_1_method_43_code, prog_1_method_44_code, prog_1_method_45_code, prog_1_method_22_code, prog_1_method_24_code, prog_1_method_25_code, prog_1_method_27_code, prog_1_method_28_code, prog_1_method_35_code, prog_1_method_29_code, prog_1_method_30_code, prog_1_method_49_code, prog_1_method_50_code, prog_1_method_51_code, prog_1_method_52_code, prog_1_method_53_code, prog_1_method_54_code, prog_1_method_31_code, prog_14_method_1_code, prog_14_method_2_code, prog_14_method_39_code, prog_14_method_6_code, prog_14_method_4_code, prog_14_method_5_code, prog_14_method_38_code, prog_14_method_3_code, prog_14_method_40_code, prog_14_method_41_code, prog_14_method_32_code, prog_14_method_15_code, prog_14_method_8_code, prog_14_method_14_code, prog_14_method_9_code, prog_14_method_7_code, prog_14_method_13_code, prog_14_method_11_code, prog_14_method_10_code, prog_14_method_12_code, prog_14_method_18_code, prog_14_method_16_code, prog_14_method_17_code, prog_14_method_19_code, prog_14_method_31_code, prog_14_method_25_code, prog_14_method_27_code, prog_14_method_20_code, prog_14_method_21_code, prog_14_method_22_code, prog_14_method_23_code, prog_14_method_26_code, prog_14_method_28_code, prog_14_method_24_code, prog_14_method_29_code, prog_14_method_30_code, prog_14_method_42_code, prog_14_method_43_code, prog_14_method_44_code, prog_14_method_45_code, prog_14_method_34_code, prog_14_method_46_code, prog_14_method_35_code, prog_14_method_47_code, prog_14_method_48_code, prog_14_method_52_code, prog_14_method_49_code, prog_14_method_50_code, prog_14_method_51_code, prog_14_method_54_code, prog_14_method_53_code, prog_14_method_56_code, prog_14_method_55_code, prog_14_method_57_code, prog_14_method_58_code, prog_14_method_33_code, prog_14_method_60_code, prog_14_method_59_code, prog_14_method_61_code, prog_14_method_62_code, prog_14_method_36_code, prog_14_method_64_code, prog_14_method_63_code, prog_14_method_37_code, prog_14_method_68_code, prog_14_method_65_code, prog_14_method_67_code, prog_14_method_66_code, prog_14_method_69_code, prog_14_method_70_code, prog_14_method_71_code, prog_14_method_72_code, prog_14_method_78_code, prog_14_method_73_code, prog_14_method_74_code, prog_14_method_77_code, prog_14_method_76_code, prog_14_method_75_code, prog_14_method_79_code, prog_14_method_80_code, prog_14_method_81_code, prog_14_method_86_code, prog_14_method_85_code, prog_14_method_82_code, prog_14_method_83_code, prog_14_method_84_code, prog_14_method_87_code, prog_14_method_88_code, prog_20_method_65_code, prog_20_method_69_code, prog_20_method_50_code, prog_20_method_59_code, prog_19_method_49_code, prog_24_method_103_code]
def zlL : List Nat := [1, 2, 1, 5, 7, 3, 2, 3, 4, 1, 4, 4, 3, 2, 1, 3, 3, 3, 1, 6, 4, 6, 4, 6, 5, 1, 3, 4, 2, 1, 2, 2, 2, 2, 3, 5, 4, 5, 3, 4, 8, 3, 2, 1, 1, 1, 5, 1, 3, 2, 3, 5, 4, 3, 5, 4, 4, 2, 3, 3, 3, 9, 2, 2, 3, 5, 5, 1, 6, 1, 4, 2, 7, 3, 2, 2, 2, 6, 2, 3, 1, 1, 2, 1, 2, 4, 2, 3, 3, 2, 1, 3, 4, 3, 5, 1, 5, 3, 5, 3, 4, 3, 3, 3, 5, 4, 6, 4, 5, 5, 2, 4, 2, 4, 3, 4, 8, 2, 2, 5, 5, 5, 5, 5, 2, 10, 7, 6, 5, 4, 5, 2, 5, 4, 5, 2, 2, 4, 3, 4, 4, 3, 4, 2, 1, 6, 2, 2, 3, 4, 4, 6, 3, 4, 4, 3, 5, 4, 3, 7, 4, 4, 10, 2, 6, 3, 9, 3, 2, 8, 1, 4, 3, 3, 5, 3, 12, 3, 2, 4, 3, 5, 3, 3, 7, 7, 4, 5, 6, 2, 2, 5, 3, 5, 9, 4, 2, 2, 3, 4, 5, 4, 4, 4, 5, 7, 6, 3, 4, 12, 7, 5, 2, 4, 6, 5, 6, 6, 5, 7, 7, 2, 6, 8, 2, 5, 4, 4, 4, 5, 1, 2, 2, 3, 1, 1, 4]
def zrL : List (Option FieldType) := [none, (some .boolean), none, none, none, (some .boolean), (some .boolean), (some .boolean), (some .int), none, none, (some .int), (some .int), (some .int), (some .boolean), (some .int), (some .int), (some .int), none, none, (some .int), (some .boolean), (some .int), (some .int), (some .boolean), none, none, (some .int), none, none, (some .boolean), (some .long), (some .long), none, none, none, (some .int), (some .int), (some .boolean), (some .int), (some .int), (some .boolean), (some .boolean), none, (some .boolean), none, none, none, (some .char), (some .boolean), (some .boolean), (some .boolean), (some .boolean), (some .int), (some .boolean), (some .boolean), (some .int), (some .int), (some .boolean), (some .boolean), (some .boolean), (some .boolean), (some .int), none, (some .int), (some .boolean), (some .int), none, none, none, none, none, none, (some .int), (some .int), (some .int), none, (some .boolean), none, none, none, none, none, none, none, none, (some .boolean), none, none, none, (some .int), (some .int), (some .boolean), (some .boolean), none, (some .int), (some .int), (some (.object "PartSongDesk$Part")), (some .int), (some .int), (some (.object "PartSongDesk$Part")), none, (some .int), (some .int), (some .int), (some .int), (some .int), none, (some .float), (some .int), none, (some .int), (some (.object "PartSongDesk$Copy")), (some .boolean), (some .int), (some .int), (some .int), (some .int), (some .int), (some .int), (some .int), (some .boolean), (some .int), (some .int), none, (some .int), (some .boolean), (some .boolean), (some .int), (some .int), (some .int), (some .int), (some .int), none, (some .int), (some .int), (some .int), (some .boolean), (some .boolean), (some .boolean), (some .boolean), (some .boolean), (some .int), none, (some .int), (some .int), (some .boolean), (some .boolean), (some .boolean), (some .boolean), (some .boolean), (some .int), (some .int), (some .int), none, (some .int), (some .int), (some .int), (some .boolean), (some .int), (some .int), (some .int), (some .int), none, (some .int), none, none, none, none, none, (some .int), (some .int), (some .int), none, none, none, none, (some .int), none, (some .int), (some .int), (some .int), (some .int), (some .int), (some .int), (some .int), (some .float), (some .int), (some .int), (some .boolean), (some .int), (some .int), (some .int), (some .int), (some .int), (some .boolean), (some .int), (some .int), (some .int), (some .int), (some .boolean), (some .int), (some .boolean), (some .boolean), (some .int), (some .int), (some .boolean), (some .int), none, (some .int), (some .int), (some .int), (some .int), (some .int), (some .int), (some .int), (some .int), (some .boolean), none, none, (some .boolean), (some .int), (some .int), (some .int), (some .int), (some .int), (some .int), (some .int), (some .boolean), (some .int), (some .int), (some .int), (some .int), (some .int), (some .int), (some .int), none]
def zcL : List Nat := [0, 0, 1, 1, 1, 1, 1, 1, 1, 2, 2, 2, 2, 2, 2, 2, 2, 2, 3, 3, 3, 3, 3, 3, 3, 4, 4, 4, 4, 5, 5, 5, 5, 5, 5, 5, 5, 5, 5, 5, 5, 5, 5, 6, 6, 7, 7, 7, 7, 7, 7, 7, 7, 7, 7, 7, 7, 7, 7, 7, 7, 7, 7, 8, 8, 8, 8, 9, 9, 9, 9, 9, 9, 9, 9, 9, 9, 9, 9, 9, 9, 9, 9, 10, 10, 10, 10, 10, 10, 11, 11, 11, 11, 11, 11, 11, 11, 11, 11, 11, 11, 11, 11, 11, 11, 11, 11, 11, 11, 11, 11, 11, 11, 11, 11, 11, 11, 11, 11, 11, 11, 11, 11, 11, 11, 11, 11, 11, 11, 11, 11, 11, 11, 11, 11, 11, 11, 11, 11, 11, 11, 11, 11, 12, 12, 12, 12, 12, 12, 12, 12, 12, 12, 12, 12, 12, 12, 12, 12, 12, 12, 12, 12, 12, 12, 12, 12, 12, 12, 12, 12, 12, 12, 12, 12, 12, 12, 12, 12, 12, 12, 12, 12, 12, 12, 12, 12, 12, 12, 12, 12, 12, 12, 12, 12, 12, 12, 12, 12, 12, 12, 12, 12, 12, 12, 12, 12, 12, 12, 12, 12, 12, 12, 12, 12, 12, 12, 12, 12, 12, 12, 12, 12, 12, 12, 12, 12, 12, 12, 12, 12, 13, 13, 13, 13, 14, 15]
def zaL : List Nat := [0, 1, 0, 3, 3, 2, 1, 2, 3, 0, 1, 2, 2, 1, 0, 2, 2, 2, 0, 4, 3, 4, 3, 3, 3, 0, 1, 1, 1, 0, 1, 1, 1, 1, 2, 2, 2, 2, 2, 1, 3, 1, 1, 0, 0, 0, 3, 0, 1, 1, 1, 4, 2, 1, 1, 1, 2, 1, 2, 1, 1, 1, 1, 0, 0, 2, 4, 0, 4, 0, 0, 1, 1, 2, 1, 1, 1, 3, 1, 2, 0, 0, 1, 0, 1, 3, 1, 2, 1, 0, 0, 0, 1, 2, 3, 0, 3, 2, 3, 2, 2, 2, 2, 2, 3, 2, 4, 3, 3, 2, 1, 2, 1, 2, 1, 1, 4, 1, 1, 3, 3, 3, 2, 2, 1, 3, 2, 2, 2, 2, 4, 1, 4, 3, 3, 1, 1, 1, 1, 1, 1, 1, 1, 0, 0, 3, 2, 2, 3, 1, 3, 3, 2, 3, 1, 2, 2, 3, 3, 2, 2, 2, 2, 0, 1, 1, 1, 1, 0, 1, 1, 1, 2, 2, 3, 2, 2, 1, 1, 2, 2, 3, 2, 2, 4, 3, 3, 2, 2, 1, 1, 2, 1, 1, 4, 2, 1, 1, 2, 3, 3, 3, 3, 3, 2, 2, 3, 2, 1, 2, 4, 2, 0, 2, 4, 0, 1, 3, 3, 4, 4, 1, 4, 3, 1, 1, 1, 1, 1, 1, 0, 2, 2, 2, 1, 1, 2]
def zkL : List Nat := [2, 0, 2, 0, 0, 0, 0, 0, 0, 2, 0, 0, 0, 0, 0, 0, 0, 0, 2, 0, 0, 0, 0, 0, 0, 2, 0, 0, 0, 2, 0, 0, 0, 0, 0, 0, 0, 0, 0, 0, 0, 0, 0, 2, 0, 2, 0, 0, 0, 0, 0, 0, 0, 0, 0, 0, 0, 0, 0, 0, 0, 0, 0, 2, 0, 0, 0, 2, 0, 0, 0, 0, 0, 0, 0, 0, 0, 0, 0, 0, 0, 0, 0, 2, 0, 0, 0, 0, 0, 2, 0, 0, 0, 0, 0, 0, 0, 0, 0, 0, 0, 0, 0, 0, 0, 0, 0, 0, 0, 0, 0, 0, 0, 0, 0, 0, 0, 0, 0, 0, 0, 0, 0, 0, 0, 0, 0, 0, 0, 0, 0, 0, 0, 0, 0, 0, 0, 0, 0, 0, 0, 0, 0, 2, 0, 0, 1, 1, 1, 0, 0, 0, 0, 0, 0, 0, 0, 0, 1, 0, 0, 0, 0, 0, 0, 0, 0, 0, 0, 0, 1, 0, 1, 0, 0, 0, 0, 0, 0, 0, 0, 0, 0, 0, 0, 0, 0, 0, 0, 0, 0, 0, 0, 0, 0, 1, 0, 0, 0, 0, 0, 0, 0, 0, 0, 0, 0, 0, 0, 0, 0, 0, 0, 0, 0, 0, 0, 0, 0, 0, 0, 0, 0, 0, 0, 0, 0, 0, 0, 0, 0, 1, 1, 1, 1, 1, 1]
def zfL : List Nat := [2, 0, 1, 1, 0, 1, 0, 0, 0, 1, 3, 0, 2, 1, 0, 0, 0, 1, 1, 3, 0, 2, 1, 3, 3, 1, 0, 1, 0, 1, 0, 1, 1, 0, 0, 0, 3, 2, 3, 2, 4, 1, 0, 2, 0, 1, 4, 1, 0, 3, 2, 1, 2, 1, 2, 2, 1, 0, 1, 2, 2, 2, 0, 1, 0, 1, 0, 2, 4, 1, 0, 3, 2, 1, 0, 0, 1, 1, 2, 1, 0, 1, 2, 1, 0, 0, 0, 0, 0, 3, 1, 6, 5, 1, 4, 0, 7, 6, 7, 8, 7, 5, 8, 8, 8, 8, 8, 6, 8, 8, 5, 7, 6, 0, 7, 5, 7, 7, 7, 7, 7, 7, 7, 7, 6, 5, 1, 1, 7, 6, 7, 6, 7, 6, 7, 7, 5, 1, 1, 3, 1, 4, 7, 1, 0, 2, 1, 0, 0, 0, 0, 2, 6, 5, 4, 0, 3, 0, 0, 1, 2, 1, 2, 1, 0, 0, 0, 3, 0, 2, 0, 0, 0, 0, 1, 2, 1, 0, 2, 6, 5, 5, 7, 6, 7, 0, 7, 6, 2, 1, 0, 1, 2, 0, 5, 1, 2, 7, 6, 8, 7, 9, 8, 0, 7, 1, 0, 8, 7, 2, 1, 8, 0, 1, 1, 9, 7, 0, 8, 7, 0, 1, 2, 7, 9, 8, 0, 7, 7, 9, 0, 0, 0, 0, 0, 0, 0]
def zwL : List Nat := [40, 0, 20, 26, 0, 21, 0, 0, 0, 20, 65, 0, 43, 20, 0, 0, 0, 21, 20, 67, 0, 42, 23, 67, 67, 20, 0, 21, 0, 20, 0, 21, 21, 0, 0, 0, 66, 42, 66, 42, 89, 20, 0, 40, 0, 20, 96, 22, 0, 75, 47, 23, 47, 22, 47, 47, 21, 0, 21, 47, 47, 47, 0, 20, 0, 20, 0, 40, 94, 23, 0, 73, 47, 22, 0, 0, 22, 22, 47, 24, 0, 21, 46, 20, 0, 0, 0, 0, 0, 60, 22, 139, 116, 21, 92, 0, 112, 90, 112, 165, 142, 120, 165, 165, 165, 165, 165, 90, 165, 165, 119, 140, 90, 0, 142, 119, 140, 111, 111, 113, 142, 113, 111, 145, 90, 116, 21, 21, 145, 90, 111, 90, 113, 90, 113, 134, 113, 21, 21, 65, 21, 91, 142, 20, 0, 42, 21, 0, 0, 0, 0, 42, 144, 121, 98, 0, 74, 0, 0, 23, 45, 22, 45, 25, 0, 0, 0, 75, 0, 46, 0, 0, 0, 0, 22, 53, 22, 0, 53, 144, 121, 121, 166, 144, 166, 0, 166, 144, 45, 21, 0, 21, 42, 0, 121, 22, 42, 166, 144, 190, 166, 213, 190, 0, 166, 25, 0, 189, 166, 52, 26, 189, 0, 23, 23, 216, 166, 0, 192, 166, 0, 23, 42, 166, 213, 189, 0, 166, 166, 213, 0, 0, 0, 0, 0, 0, 0]
def zP0 : List (Nat × Nat × Nat × Nat) := [(3, 10, 0, 0), (9, 1, 0, 1), (15, 3, 4, 0), (17, 12, 25, 0), (18, 1, 0, 2), (22, 3, 5, 0), (24, 12, 29, 0), (25, 1, 0, 3), (29, 1, 0, 0)]
def zP1 : List (Nat × Nat × Nat × Nat) := [(3, 10, 0, 0), (9, 1, 1, 1), (15, 1, 1, 2), (18, 1, 1, 3), (21, 2, 6, 0), (25, 1, 1, 0), (29, 2, 88, 0), (35, 1, 4, 0), (41, 2, 86, 0), (43, 2, 4, 0), (47, 1, 10, 6), (50, 1, 10, 7), (53, 1, 10, 8), (56, 1, 10, 9), (59, 1, 10, 4)]
def zP2 : List (Nat × Nat × Nat × Nat) := [(3, 10, 0, 0), (11, 1, 2, 0), (15, 1, 2, 1), (18, 1, 2, 2), (22, 1, 2, 3), (25, 1, 10, 0), (30, 2, 11, 0), (34, 2, 12, 0), (37, 1, 10, 5), (40, 2, 87, 0), (44, 1, 10, 1), (47, 1, 10, 4), (50, 2, 13, 0), (54, 2, 15, 0), (57, 2, 16, 0), (60, 2, 17, 0), (63, 2, 14, 0), (67, 1, 10, 6), (70, 1, 10, 11), (73, 2, 86, 0)]
def zP3 : List (Nat × Nat × Nat × Nat) := [(3, 10, 0, 0), (9, 1, 3, 0), (15, 1, 3, 1), (19, 1, 3, 2), (22, 2, 20, 0), (26, 2, 21, 0), (30, 2, 31, 0), (36, 2, 32, 0), (39, 2, 30, 0), (43, 1, 5, 2), (47, 2, 22, 0)]
def zP4 : List (Nat × Nat × Nat × Nat) := [(3, 10, 0, 0), (9, 1, 4, 0), (15, 1, 4, 1), (19, 2, 28, 0)]
def zP5 : List (Nat × Nat × Nat × Nat) := [(3, 10, 0, 0), (9, 1, 5, 4), (15, 1, 5, 0), (19, 1, 5, 1), (22, 1, 5, 2), (25, 1, 5, 3), (28, 2, 30, 0), (32, 2, 31, 0), (36, 2, 32, 0), (39, 2, 37, 0), (43, 2, 36, 0), (46, 2, 38, 0), (50, 2, 41, 0), (53, 2, 234, 0)]
def zP6 : List (Nat × Nat × Nat × Nat) := [(3, 10, 0, 0), (9, 1, 6, 0), (15, 3, 10, 0), (17, 12, 83, 0), (18, 1, 6, 6), (22, 3, 4, 0), (24, 12, 25, 0), (25, 1, 6, 7), (29, 3, 5, 0), (31, 12, 29, 0), (32, 1, 6, 8), (36, 1, 6, 3), (40, 1, 5, 0)]
def zP7 : List (Nat × Nat × Nat × Nat) := [(3, 10, 0, 0), (9, 1, 7, 0), (15, 2, 232, 0), (21, 1, 7, 1), (25, 1, 7, 2), (28, 2, 84, 0), (34, 1, 10, 2), (37, 2, 47, 0), (40, 1, 10, 0), (43, 2, 49, 0), (47, 2, 87, 0), (51, 2, 48, 0), (55, 2, 50, 0), (58, 2, 52, 0), (62, 2, 54, 0), (65, 2, 55, 0), (68, 2, 51, 0), (72, 2, 59, 0), (75, 2, 60, 0), (78, 2, 61, 0), (81, 2, 85, 0), (85, 2, 53, 0), (89, 2, 56, 0), (93, 2, 58, 0), (97, 2, 86, 0), (101, 1, 10, 9), (105, 2, 62, 0), (109, 1, 10, 7), (112, 1, 10, 8), (115, 1, 10, 10), (119, 2, 57, 0)]
def zP8 : List (Nat × Nat × Nat × Nat) := [(3, 10, 0, 0), (9, 1, 8, 0), (15, 1, 8, 1), (18, 1, 8, 2), (21, 1, 8, 3), (24, 1, 8, 4), (27, 1, 8, 6), (30, 1, 8, 8), (34, 1, 8, 9), (37, 1, 8, 5), (41, 1, 8, 7), (44, 2, 235, 0)]
def zP9 : List (Nat × Nat × Nat × Nat) := [(3, 10, 0, 0), (9, 3, 10, 0), (11, 12, 83, 0), (12, 1, 9, 0), (18, 1, 9, 1), (22, 1, 9, 2), (25, 1, 9, 3), (30, 1, 9, 5), (33, 1, 10, 2), (37, 1, 10, 0), (40, 2, 33, 0), (46, 1, 10, 3), (49, 2, 34, 0), (53, 2, 3, 0), (59, 2, 69, 0), (62, 1, 10, 6), (65, 5, 1000000, 0), (66, 1, 9, 7), (69, 2, 86, 0), (73, 1, 5, 0), (74, 2, 71, 0), (78, 2, 82, 0), (81, 1, 9, 8), (84, 1, 9, 4), (87, 1, 9, 6), (90, 1, 9, 9), (93, 2, 236, 0), (99, 2, 70, 0), (102, 1, 10, 4), (105, 1, 10, 7), (108, 2, 72, 0), (111, 2, 78, 0), (114, 1, 10, 5), (117, 2, 79, 0), (121, 2, 80, 0), (124, 2, 81, 0), (127, 1, 10, 11), (130, 2, 231, 0), (136, 1, 10, 8), (139, 1, 9, 11), (142, 2, 73, 0), (145, 8, 21, 0), (148, 2, 233, 0), (151, 1, 9, 10), (154, 2, 74, 0), (158, 2, 76, 0), (161, 2, 77, 0), (164, 1, 10, 10), (168, 1, 10, 9), (171, 1, 5, 3), (174, 1, 5, 2), (177, 2, 35, 0), (180, 1, 10, 1), (183, 2, 75, 0), (186, 8, 22, 0)]
def zP10 : List (Nat × Nat × Nat × Nat) := [(3, 10, 0, 0), (9, 1, 10, 4), (15, 1, 10, 5), (18, 1, 10, 6), (21, 1, 10, 7), (24, 1, 10, 8), (27, 1, 10, 9), (30, 1, 10, 10), (34, 1, 10, 11), (37, 1, 10, 0), (41, 1, 10, 1), (44, 1, 10, 2), (47, 1, 10, 3)]
def zP11 : List (Nat × Nat × Nat × Nat) := [(1, 10, 0, 0), (9, 3, 6, 0), (11, 1, 11, 0), (15, 3, 0, 0), (17, 1, 11, 1), (21, 3, 1, 0), (23, 12, 2, 0), (24, 1, 11, 3), (28, 3, 7, 0), (30, 12, 45, 0), (31, 1, 11, 4), (35, 3, 2, 0), (37, 12, 9, 0), (38, 1, 11, 5), (42, 3, 9, 0), (44, 12, 67, 0), (45, 1, 11, 6), (49, 3, 10, 0), (51, 12, 83, 0), (52, 1, 11, 7), (56, 3, 5, 0), (58, 12, 29, 0), (59, 1, 11, 8), (63, 3, 8, 0), (65, 2, 63, 0), (66, 1, 11, 9), (70, 3, 3, 0), (72, 12, 18, 0), (73, 1, 11, 10), (77, 12, 43, 0), (78, 12, 0, 0), (79, 2, 97, 0), (83, 9, 1, 0), (87, 11, 0, 0), (90, 1, 6, 3), (94, 1, 6, 1), (98, 9, 2, 0), (102, 11, 0, 0), (103, 1, 6, 0), (107, 1, 6, 2), (114, 2, 231, 0), (120, 2, 100, 0), (123, 1, 6, 4), (126, 1, 6, 5), (129, 1, 6, 6), (132, 1, 10, 0), (135, 2, 86, 0), (139, 9, 0, 0), (143, 11, 0, 0), (144, 1, 10, 4), (148, 1, 6, 8), (151, 1, 5, 0), (154, 1, 5, 2), (157, 2, 107, 0), (161, 2, 36, 0), (166, 7, 3212836864, 0), (167, 1, 5, 3), (170, 7, 1097859072, 0), (171, 1, 11, 2), (176, 1, 0, 0), (179, 2, 110, 0), (183, 2, 112, 0), (189, 1, 0, 1), (192, 2, 113, 0), (198, 1, 0, 2), (202, 1, 6, 7), (203, 2, 26, 0), (209, 1, 4, 1), (214, 2, 115, 0), (218, 2, 5, 0), (223, 2, 7, 0), (226, 1, 1, 0), (229, 2, 8, 0), (233, 2, 28, 0), (236, 1, 0, 3), (237, 2, 101, 0), (241, 2, 68, 0), (245, 2, 38, 0), (252, 2, 39, 0), (256, 2, 124, 0), (261, 2, 125, 0), (266, 2, 64, 0), (274, 1, 8, 6), (279, 1, 8, 5), (284, 2, 66, 0), (287, 1, 8, 4), (290, 2, 92, 0), (295, 2, 133, 0), (299, 2, 22, 0), (302, 2, 23, 0), (306, 2, 136, 0), (312, 2, 1, 0), (315, 1, 11, 11), (326, 2, 30, 0), (329, 1, 5, 1), (332, 2, 46, 0), (336, 1, 10, 2), (337, 2, 10, 0), (341, 2, 27, 0), (345, 2, 126, 0), (348, 2, 127, 0), (351, 2, 44, 0), (355, 2, 40, 0), (359, 2, 93, 0), (363, 2, 65, 0), (366, 1, 8, 2), (369, 1, 8, 3), (372, 2, 94, 0), (376, 1, 8, 0), (379, 1, 8, 1), (382, 2, 19, 0), (386, 2, 137, 0), (389, 2, 138, 0), (392, 2, 139, 0), (395, 2, 140, 0), (398, 2, 141, 0), (401, 2, 42, 0), (405, 2, 24, 0)]
def zP12 : List (Nat × Nat × Nat × Nat) := [(1, 10, 0, 0), (7, 1, 12, 0), (13, 1, 12, 1), (16, 1, 12, 2), (19, 1, 12, 3), (22, 1, 12, 4), (25, 1, 12, 5), (28, 1, 12, 6), (31, 1, 12, 7), (35, 1, 12, 8), (38, 1, 12, 9), (41, 1, 12, 15), (44, 1, 12, 16), (47, 1, 12, 17), (50, 1, 12, 18), (53, 1, 12, 20), (56, 1, 12, 21), (59, 1, 12, 22), (62, 1, 12, 29), (65, 1, 12, 30), (68, 1, 12, 31), (71, 1, 12, 32), (75, 1, 12, 33), (78, 1, 12, 34), (81, 1, 12, 35), (84, 1, 12, 36), (87, 1, 12, 38), (90, 1, 12, 39), (93, 1, 12, 40), (96, 1, 12, 41), (99, 1, 12, 43), (102, 1, 12, 44), (105, 1, 12, 45), (108, 1, 12, 47), (111, 1, 12, 48), (114, 1, 12, 49), (117, 1, 12, 50), (120, 1, 12, 51), (123, 1, 12, 53), (126, 1, 12, 54), (129, 1, 12, 55), (132, 1, 12, 56), (135, 1, 12, 57), (138, 1, 12, 58), (141, 1, 12, 60), (145, 2, 147, 0), (149, 1, 12, 10), (152, 2, 155, 0), (156, 1, 12, 12), (159, 2, 161, 0), (162, 2, 157, 0), (166, 2, 158, 0), (170, 2, 148, 0), (173, 2, 159, 0), (176, 2, 160, 0), (179, 2, 162, 0), (182, 1, 12, 11), (185, 2, 156, 0), (188, 1, 12, 19), (191, 1, 12, 13), (194, 1, 12, 14), (197, 2, 164, 0), (201, 2, 165, 0), (205, 1, 12, 42), (208, 1, 12, 23), (211, 1, 12, 24), (214, 1, 12, 25), (217, 2, 173, 0), (221, 6, 256, 0), (223, 2, 170, 0), (226, 1, 12, 26), (229, 1, 12, 28), (232, 2, 171, 0), (235, 2, 172, 0), (238, 1, 12, 27), (241, 2, 174, 0), (245, 2, 176, 0), (248, 2, 168, 0), (251, 2, 169, 0), (254, 2, 175, 0), (257, 2, 177, 0), (260, 2, 178, 0), (263, 2, 154, 0), (266, 2, 163, 0), (269, 2, 166, 0), (272, 2, 167, 0), (274, 2, 153, 0), (277, 6, 255, 0), (279, 1, 12, 37), (282, 2, 146, 0), (285, 2, 149, 0), (289, 2, 150, 0), (293, 2, 183, 0), (296, 2, 185, 0), (299, 7, 3212836864, 0), (300, 7, 1097859072, 0), (301, 2, 190, 0), (304, 2, 189, 0), (307, 2, 191, 0), (310, 2, 193, 0), (313, 2, 195, 0), (316, 2, 198, 0), (319, 2, 200, 0), (322, 2, 199, 0), (325, 2, 203, 0), (328, 2, 206, 0), (331, 2, 205, 0), (334, 2, 210, 0), (338, 2, 208, 0), (341, 2, 209, 0), (344, 1, 12, 46), (347, 1, 12, 52), (350, 2, 220, 0), (354, 2, 219, 0), (358, 2, 216, 0), (361, 2, 217, 0), (364, 2, 218, 0), (368, 2, 226, 0), (371, 2, 227, 0), (374, 2, 228, 0), (377, 2, 225, 0), (380, 1, 12, 59)]
def zP13 : List (Nat × Nat × Nat × Nat) := []
def zP14 : List (Nat × Nat × Nat × Nat) := [(265, 5, 1431655765, 0), (266, 5, 858993459, 0), (267, 5, 252645135, 0)]
def zP15 : List (Nat × Nat × Nat × Nat) := []
def zP : List (List (Nat × Nat × Nat × Nat)) := [zP0, zP1, zP2, zP3, zP4, zP5, zP6, zP7, zP8, zP9, zP10, zP11, zP12, zP13, zP14, zP15]
def zEx : List String := ["java/lang/IndexOutOfBoundsException", "java/lang/IllegalArgumentException", "java/lang/IllegalStateException"]
/-! throws: method, place, class entry, text entry, by ldc_w, constructor entry, which exception, the text -/
def zTh : List (Nat × Nat × Nat × Nat × Nat × Nat × Nat × String) := [(96, 20, 83, 85, 0, 87, 1, "no such letter"), (96, 49, 98, 100, 0, 102, 2, "the part is printed or its text is full"), (97, 18, 139, 320, 1, 143, 0, "no such piece or voice"), (98, 20, 83, 110, 0, 87, 1, "no such number of letters"), (98, 38, 98, 112, 0, 102, 2, "the part is printed"), (104, 20, 139, 141, 0, 143, 0, "no such token"), (107, 20, 139, 327, 1, 143, 0, "no such bar or tick"), (108, 24, 83, 164, 0, 87, 1, "no such tempo"), (109, 23, 98, 174, 0, 102, 2, "the text is not right or there are too many copies"), (111, 16, 139, 187, 0, 143, 0, "no such singer"), (111, 48, 98, 196, 0, 102, 2, "the copy is lent or the singer has one of the piece"), (112, 12, 139, 324, 1, 143, 0, "no such copy"), (114, 14, 98, 212, 0, 102, 2, "the copy is not lent"), (116, 31, 139, 141, 0, 143, 0, "no such token"), (116, 54, 83, 221, 0, 87, 1, "no such kind of correction, or value for it"), (116, 104, 98, 227, 0, 102, 2, "the copy is not lent, the token not of that kind, or all corrections are used"), (122, 25, 83, 248, 0, 87, 1, "the copies are of unlike parts"), (122, 56, 98, 250, 0, 102, 2, "a copy is not right"), (123, 15, 139, 259, 1, 143, 0, "no such bar"), (124, 9, 139, 318, 1, 143, 0, "no such piece"), (128, 14, 83, 264, 1, 87, 1, "no such kind of clash"), (129, 9, 139, 270, 1, 143, 0, "no such room"), (129, 30, 83, 272, 1, 87, 1, "no such number of places"), (130, 39, 83, 277, 1, 87, 1, "no such voices or bars"), (130, 62, 98, 282, 1, 102, 2, "there are too many requests"), (131, 15, 139, 293, 1, 143, 0, "no such request"), (132, 19, 139, 259, 1, 143, 0, "no such bar"), (133, 28, 139, 322, 1, 143, 0, "no such singer, piece or voice"), (142, 13, 98, 310, 1, 102, 2, "the piece is not ready")]
def zNe : List (String × Nat × MethodName × String) := [("PartSongDesk", 23, ⟨"PartSongDesk$Corrections", "<init>", "()V"⟩, "PartSongDesk"), ("PartSongDesk", 30, ⟨"PartSongDesk$Reader", "<init>", "()V"⟩, "PartSongDesk"), ("PartSongDesk", 37, ⟨"PartSongDesk$Grammar", "<init>", "()V"⟩, "PartSongDesk"), ("PartSongDesk", 44, ⟨"PartSongDesk$Singing", "<init>", "()V"⟩, "PartSongDesk"), ("PartSongDesk$Singing", 11, ⟨"PartSongDesk$Tokens", "<init>", "()V"⟩, "PartSongDesk"), ("PartSongDesk", 51, ⟨"PartSongDesk$Tokens", "<init>", "()V"⟩, "PartSongDesk"), ("PartSongDesk", 58, ⟨"PartSongDesk$Music", "<init>", "()V"⟩, "PartSongDesk"), ("PartSongDesk", 72, ⟨"PartSongDesk$Learning", "<init>", "()V"⟩, "PartSongDesk"), ("PartSongDesk", 77, ⟨"PartSongDesk$Part", "<init>", "()V"⟩, "PartSongDesk"), ("PartSongDesk$Part", 17, ⟨"PartSongDesk$Tokens", "<init>", "()V"⟩, "PartSongDesk"), ("PartSongDesk$Part", 24, ⟨"PartSongDesk$Marks", "<init>", "()V"⟩, "PartSongDesk"), ("PartSongDesk$Part", 31, ⟨"PartSongDesk$Music", "<init>", "()V"⟩, "PartSongDesk"), ("PartSongDesk", 78, ⟨"PartSongDesk$Copy", "<init>", "()V"⟩, "PartSongDesk"), ("PartSongDesk$Copy", 17, ⟨"PartSongDesk$Marks", "<init>", "()V"⟩, "PartSongDesk"), ("PartSongDesk$Copy", 24, ⟨"PartSongDesk$Music", "<init>", "()V"⟩, "PartSongDesk")]
/-- how many methods -/
abbrev zNM : Nat := 237
