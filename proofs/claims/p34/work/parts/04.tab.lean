/-! the tables of the small machine: printed by program (wip/p34/gen/gen_tab.py) out of tables_1 and the listing; part 06 holds them against the tables -/
/-! methods: number, name -/
-- 0 PartSongDesk$Copy <init> ()V  frames 2 locals 40
-- 1 PartSongDesk$Copy isLentOf (I)Z  frames 0 locals 0
-- 2 PartSongDesk$Corrections <init> ()V  frames 1 locals 20
-- 3 PartSongDesk$Corrections apply (LPartSongDesk$Tokens;LPartSongDesk$Marks;LPartSongDesk$Tokens;)V  frames 1 locals 26
-- 4 PartSongDesk$Corrections applyOne (ILPartSongDesk$Tokens;LPartSongDesk$Tokens;)V  frames 0 locals 0
-- 5 PartSongDesk$Corrections isValue (II)Z  frames 1 locals 21
-- 6 PartSongDesk$Corrections isLength (I)Z  frames 0 locals 0
-- 7 PartSongDesk$Corrections isFor (II)Z  frames 0 locals 0
-- 8 PartSongDesk$Corrections add (III)I  frames 0 locals 0
-- 9 PartSongDesk$Grammar <init> ()V  frames 1 locals 20
-- 10 PartSongDesk$Grammar check (LPartSongDesk$Tokens;)V  frames 3 locals 65
-- 11 PartSongDesk$Grammar headerFault (LPartSongDesk$Tokens;I)I  frames 0 locals 0
-- 12 PartSongDesk$Grammar bodyFault (LPartSongDesk$Tokens;I)I  frames 2 locals 43
-- 13 PartSongDesk$Grammar openRepeat (I)I  frames 1 locals 20
-- 14 PartSongDesk$Grammar isBehindEnding ()Z  frames 0 locals 0
-- 15 PartSongDesk$Grammar closeRepeat (LPartSongDesk$Tokens;I)I  frames 0 locals 0
-- 16 PartSongDesk$Grammar openEnding (LPartSongDesk$Tokens;I)I  frames 0 locals 0
-- 17 PartSongDesk$Grammar closeEnding (LPartSongDesk$Tokens;I)I  frames 1 locals 21
-- 18 PartSongDesk$Learning <init> ()V  frames 1 locals 20
-- 19 PartSongDesk$Learning learn (IILPartSongDesk$Music;I)V  frames 3 locals 67
-- 20 PartSongDesk$Learning indexOf (III)I  frames 0 locals 0
-- 21 PartSongDesk$Learning knows (IILPartSongDesk$Music;I)Z  frames 2 locals 42
-- 22 PartSongDesk$Learning timesOf (III)I  frames 1 locals 23
-- 23 PartSongDesk$Learning learnedOtherwise (IILPartSongDesk$Music;)I  frames 3 locals 67
-- 24 PartSongDesk$Learning knowsAll (IILPartSongDesk$Music;)Z  frames 3 locals 67
-- 25 PartSongDesk$Marks <init> ()V  frames 1 locals 20
-- 26 PartSongDesk$Marks become (LPartSongDesk$Marks;)V  frames 0 locals 0
-- 27 PartSongDesk$Marks takeIn (LPartSongDesk$Marks;)I  frames 1 locals 21
-- 28 PartSongDesk$Marks add (I)V  frames 0 locals 0
-- 29 PartSongDesk$Music <init> ()V  frames 1 locals 20
-- 30 PartSongDesk$Music has (I)Z  frames 0 locals 0
-- 31 PartSongDesk$Music earlyTicks (I)J  frames 1 locals 21
-- 32 PartSongDesk$Music lateTicks (I)J  frames 1 locals 21
-- 33 PartSongDesk$Music clear (I)V  frames 0 locals 0
-- 34 PartSongDesk$Music fail (II)V  frames 0 locals 0
-- 35 PartSongDesk$Music add ([II)V  frames 0 locals 0
-- 36 PartSongDesk$Music pitchAt (II)I  frames 3 locals 66
-- 37 PartSongDesk$Music soundAt (II)I  frames 2 locals 42
-- 38 PartSongDesk$Music noteBeginsAt (II)Z  frames 3 locals 66
-- 39 PartSongDesk$Music barsUnlike (LPartSongDesk$Music;)I  frames 2 locals 42
-- 40 PartSongDesk$Music clashesWith (LPartSongDesk$Music;II)I  frames 4 locals 89
-- 41 PartSongDesk$Music isHarsh (I)Z  frames 1 locals 20
-- 42 PartSongDesk$Music isEvenWith (LPartSongDesk$Music;)Z  frames 0 locals 0
-- 43 PartSongDesk$Part <init> ()V  frames 2 locals 40
-- 44 PartSongDesk$Part isHeld ()Z  frames 0 locals 0
-- 45 PartSongDesk$Reader <init> ()V  frames 1 locals 20
-- 46 PartSongDesk$Reader readAll ([CILPartSongDesk$Tokens;)V  frames 4 locals 96
-- 47 PartSongDesk$Reader passSpaces ()V  frames 1 locals 22
-- 48 PartSongDesk$Reader letterAt (I)C  frames 0 locals 0
-- 49 PartSongDesk$Reader readOne (LPartSongDesk$Tokens;)Z  frames 3 locals 75
-- 50 PartSongDesk$Reader readClef (LPartSongDesk$Tokens;)Z  frames 2 locals 47
-- 51 PartSongDesk$Reader take (LPartSongDesk$Tokens;III)Z  frames 1 locals 23
-- 52 PartSongDesk$Reader readKey (LPartSongDesk$Tokens;I)Z  frames 2 locals 47
-- 53 PartSongDesk$Reader digitAt (I)I  frames 1 locals 22
-- 54 PartSongDesk$Reader readMeter (LPartSongDesk$Tokens;)Z  frames 2 locals 47
-- 55 PartSongDesk$Reader readRest (LPartSongDesk$Tokens;)Z  frames 2 locals 47
-- 56 PartSongDesk$Reader ticksOf (CC)I  frames 1 locals 21
-- 57 PartSongDesk$Reader plainTicksOf (C)I  frames 0 locals 0
-- 58 PartSongDesk$Reader isDotted (CC)Z  frames 1 locals 21
-- 59 PartSongDesk$Reader readClose (LPartSongDesk$Tokens;)Z  frames 2 locals 47
-- 60 PartSongDesk$Reader readFirstOf (LPartSongDesk$Tokens;)Z  frames 2 locals 47
-- 61 PartSongDesk$Reader readNote (LPartSongDesk$Tokens;)Z  frames 2 locals 47
-- 62 PartSongDesk$Reader signOf (C)I  frames 0 locals 0
-- 63 PartSongDesk$Rehearsals <init> ()V  frames 1 locals 20
-- 64 PartSongDesk$Rehearsals beginDay ()I  frames 0 locals 0
-- 65 PartSongDesk$Rehearsals give (II)Z  frames 1 locals 20
-- 66 PartSongDesk$Rehearsals add (IIII)I  frames 0 locals 0
-- 67 PartSongDesk$Singing <init> ()V  frames 2 locals 40
-- 68 PartSongDesk$Singing sing (LPartSongDesk$Tokens;LPartSongDesk$Marks;LPartSongDesk$Corrections;LPartSongDesk$Music;)V  frames 4 locals 94
-- 69 PartSongDesk$Singing begin ()V  frames 1 locals 23
-- 70 PartSongDesk$Singing findSteps ()V  frames 0 locals 0
-- 71 PartSongDesk$Singing singToken (LPartSongDesk$Music;)V  frames 3 locals 73
-- 72 PartSongDesk$Singing singNote (LPartSongDesk$Music;)V  frames 2 locals 47
-- 73 PartSongDesk$Singing changeOf (II)I  frames 1 locals 22
-- 74 PartSongDesk$Singing changeBySign (I)I  frames 0 locals 0
-- 75 PartSongDesk$Singing changeByKey (I)I  frames 0 locals 0
-- 76 PartSongDesk$Singing failTie (LPartSongDesk$Music;)V  frames 1 locals 22
-- 77 PartSongDesk$Singing fill (LPartSongDesk$Music;II)Z  frames 1 locals 22
-- 78 PartSongDesk$Singing singRest (LPartSongDesk$Music;)V  frames 2 locals 47
-- 79 PartSongDesk$Singing endBar (LPartSongDesk$Music;I)V  frames 1 locals 24
-- 80 PartSongDesk$Singing openRepeat ()V  frames 0 locals 0
-- 81 PartSongDesk$Singing closeRepeat ()V  frames 1 locals 21
-- 82 PartSongDesk$Singing finish (LPartSongDesk$Music;)V  frames 2 locals 46
-- 83 PartSongDesk$Tokens <init> ()V  frames 1 locals 20
-- 84 PartSongDesk$Tokens clear (I)V  frames 0 locals 0
-- 85 PartSongDesk$Tokens add (III)V  frames 0 locals 0
-- 86 PartSongDesk$Tokens has (I)Z  frames 0 locals 0
-- 87 PartSongDesk$Tokens fail (II)V  frames 0 locals 0
-- 88 PartSongDesk$Tokens become (LPartSongDesk$Tokens;)V  frames 0 locals 0
-- 89 PartSongDesk <init> ()V  frames 3 locals 60
-- 90 PartSongDesk day ()I  frames 1 locals 22
-- 91 PartSongDesk plan ()I  frames 6 locals 139
-- 92 PartSongDesk rehearse (I)Z  frames 5 locals 116
-- 93 PartSongDesk isSungFrom (LPartSongDesk$Copy;I)Z  frames 1 locals 21
-- 94 PartSongDesk learnFrom (LPartSongDesk$Copy;II)V  frames 4 locals 92
-- 95 PartSongDesk concerts ()I  frames 0 locals 0
-- 96 PartSongDesk write (IIC)I  frames 7 locals 112
-- 97 PartSongDesk partOf (II)LPartSongDesk$Part;  frames 6 locals 90
-- 98 PartSongDesk$Part isHeld ()Z  frames 0 locals 0
-- 99 PartSongDesk error (II)I  frames 8 locals 165
-- 100 PartSongDesk readPart (II)LPartSongDesk$Part;  frames 7 locals 142
-- 101 PartSongDesk readText (LPartSongDesk$Part;LPartSongDesk$Tokens;)V  frames 5 locals 120
-- 102 PartSongDesk errorAt (II)I  frames 8 locals 165
-- 103 PartSongDesk tokens (II)I  frames 8 locals 165
-- 104 PartSongDesk token (III)I  frames 8 locals 165
-- 105 PartSongDesk bars (II)I  frames 8 locals 165
-- 106 PartSongDesk pitch (IIII)I  frames 8 locals 165
-- 107 PartSongDesk mustHave (LPartSongDesk$Music;II)V  frames 6 locals 90
-- 108 PartSongDesk seconds (III)F  frames 8 locals 165
-- 109 PartSongDesk print (II)I  frames 8 locals 165
-- 110 PartSongDesk singCopy (LPartSongDesk$Copy;)V  frames 5 locals 119
-- 111 PartSongDesk lend (II)I  frames 7 locals 140
-- 112 PartSongDesk copyOf (I)LPartSongDesk$Copy;  frames 6 locals 90
-- 113 PartSongDesk hasCopyOf (II)Z  frames 0 locals 0
-- 114 PartSongDesk back (I)I  frames 7 locals 142
-- 115 PartSongDesk takeBack (LPartSongDesk$Copy;)I  frames 5 locals 119
-- 116 PartSongDesk pencil (IIII)I  frames 7 locals 140
-- 117 PartSongDesk holder (I)I  frames 7 locals 111
-- 118 PartSongDesk copyError (I)I  frames 7 locals 111
-- 119 PartSongDesk copyPitch (III)I  frames 7 locals 113
-- 120 PartSongDesk copyPitchAnew (III)I  frames 7 locals 142
-- 121 PartSongDesk begins (III)Z  frames 7 locals 113
-- 122 PartSongDesk differ (II)I  frames 7 locals 111
-- 123 PartSongDesk clashes (II)I  frames 7 locals 145
-- 124 PartSongDesk mustBePiece (I)V  frames 6 locals 90
-- 125 PartSongDesk clashesIn (III)I  frames 5 locals 116
-- 126 PartSongDesk isOfUnlikeLengths (II)Z  frames 1 locals 21
-- 127 PartSongDesk isOfUnlikeTicks (II)Z  frames 1 locals 21
-- 128 PartSongDesk clashesOf (II)I  frames 7 locals 145
-- 129 PartSongDesk room (II)I  frames 6 locals 90
-- 130 PartSongDesk ask (IIII)I  frames 7 locals 111
-- 131 PartSongDesk done (I)I  frames 6 locals 90
-- 132 PartSongDesk learned (IIII)I  frames 7 locals 113
-- 133 PartSongDesk mustBeSingerAndPart (III)V  frames 6 locals 90
-- 134 PartSongDesk misled (III)I  frames 7 locals 113
-- 135 PartSongDesk judge (I)I  frames 7 locals 134
-- 136 PartSongDesk verdictOn (I)I  frames 5 locals 113
-- 137 PartSongDesk isLentInAllVoices (I)Z  frames 1 locals 21
-- 138 PartSongDesk hasWrongCopy (I)Z  frames 1 locals 21
-- 139 PartSongDesk hasUnlikeCopies (I)Z  frames 3 locals 65
-- 140 PartSongDesk hasUnevenVoices (I)Z  frames 1 locals 21
-- 141 PartSongDesk isLearned (I)Z  frames 4 locals 91
-- 142 PartSongDesk concert (I)I  frames 7 locals 142
-- 143 PartSongDeskLaw sings (LPartSongDesk;III)Z  frames 10 locals 240
-- 144 PartSongDeskLaw fits (LPartSongDesk;II)Z  frames 10 locals 240
-- 145 PartSongDesk$Part isHeld ()Z  frames 0 locals 0
-- 146 PartSongDesk$Part isHeld ()Z  frames 0 locals 0
-- 147 PartSongDesk$Part isHeld ()Z  frames 0 locals 0
-- 148 PartSongDesk$Part isHeld ()Z  frames 0 locals 0
-- 149 PartSongDesk$Part isHeld ()Z  frames 0 locals 0
-- 150 PartSongDesk$Part isHeld ()Z  frames 0 locals 0
-- 151 PartSongDesk$Part isHeld ()Z  frames 0 locals 0
-- 152 PartSongDesk$Part isHeld ()Z  frames 0 locals 0
-- 153 PartSongDesk$Part isHeld ()Z  frames 0 locals 0
-- 154 PartSongDesk$Part isHeld ()Z  frames 0 locals 0
-- 155 PartSongDesk$Part isHeld ()Z  frames 0 locals 0
-- 156 PartSongDesk$Part isHeld ()Z  frames 0 locals 0
-- 157 PartSongDesk$Part isHeld ()Z  frames 0 locals 0
-- 158 PartSongDesk$Part isHeld ()Z  frames 0 locals 0
-- 159 PartSongDesk$Part isHeld ()Z  frames 0 locals 0
-- 160 PartSongDesk$Part isHeld ()Z  frames 0 locals 0
-- 161 PartSongDesk$Part isHeld ()Z  frames 0 locals 0
-- 162 PartSongDesk$Part isHeld ()Z  frames 0 locals 0
-- 163 PartSongDesk$Part isHeld ()Z  frames 0 locals 0
-- 164 PartSongDesk$Part isHeld ()Z  frames 0 locals 0
-- 165 PartSongDesk$Part isHeld ()Z  frames 0 locals 0
-- 166 PartSongDesk$Part isHeld ()Z  frames 0 locals 0
-- 167 PartSongDesk$Part isHeld ()Z  frames 0 locals 0
-- 168 PartSongDesk$Part isHeld ()Z  frames 0 locals 0
-- 169 PartSongDesk$Part isHeld ()Z  frames 0 locals 0
-- 170 PartSongDesk$Part isHeld ()Z  frames 0 locals 0
-- 171 PartSongDesk$Part isHeld ()Z  frames 0 locals 0
-- 172 PartSongDesk$Part isHeld ()Z  frames 0 locals 0
-- 173 PartSongDesk$Part isHeld ()Z  frames 0 locals 0
-- 174 PartSongDesk$Part isHeld ()Z  frames 0 locals 0
-- 175 PartSongDesk$Part isHeld ()Z  frames 0 locals 0
-- 176 PartSongDesk$Part isHeld ()Z  frames 0 locals 0
-- 177 PartSongDesk$Part isHeld ()Z  frames 0 locals 0
-- 178 PartSongDesk$Part isHeld ()Z  frames 0 locals 0
-- 179 PartSongDesk$Part isHeld ()Z  frames 0 locals 0
-- 180 PartSongDesk$Part isHeld ()Z  frames 0 locals 0
-- 181 PartSongDesk$Part isHeld ()Z  frames 0 locals 0
-- 182 PartSongDesk$Part isHeld ()Z  frames 0 locals 0
-- 183 PartSongDesk$Part isHeld ()Z  frames 0 locals 0
-- 184 PartSongDesk$Part isHeld ()Z  frames 0 locals 0
-- 185 PartSongDesk$Part isHeld ()Z  frames 0 locals 0
-- 186 PartSongDesk$Part isHeld ()Z  frames 0 locals 0
-- 187 PartSongDesk$Part isHeld ()Z  frames 0 locals 0
-- 188 PartSongDesk$Part isHeld ()Z  frames 0 locals 0
-- 189 PartSongDesk$Part isHeld ()Z  frames 0 locals 0
-- 190 PartSongDesk$Part isHeld ()Z  frames 0 locals 0
-- 191 PartSongDesk$Part isHeld ()Z  frames 0 locals 0
-- 192 PartSongDesk$Part isHeld ()Z  frames 0 locals 0
-- 193 PartSongDesk$Part isHeld ()Z  frames 0 locals 0
-- 194 PartSongDesk$Part isHeld ()Z  frames 0 locals 0
-- 195 PartSongDesk$Part isHeld ()Z  frames 0 locals 0
-- 196 PartSongDesk$Part isHeld ()Z  frames 0 locals 0
-- 197 PartSongDesk$Part isHeld ()Z  frames 0 locals 0
-- 198 PartSongDesk$Part isHeld ()Z  frames 0 locals 0
-- 199 PartSongDesk$Part isHeld ()Z  frames 0 locals 0
-- 200 PartSongDesk$Part isHeld ()Z  frames 0 locals 0
-- 201 PartSongDesk$Part isHeld ()Z  frames 0 locals 0
-- 202 PartSongDesk$Part isHeld ()Z  frames 0 locals 0
-- 203 PartSongDesk$Part isHeld ()Z  frames 0 locals 0
-- 204 PartSongDesk$Part isHeld ()Z  frames 0 locals 0
-- 205 PartSongDesk$Part isHeld ()Z  frames 0 locals 0
-- 206 PartSongDesk$Part isHeld ()Z  frames 0 locals 0
-- 207 PartSongDesk$Part isHeld ()Z  frames 0 locals 0
-- 208 PartSongDesk$Part isHeld ()Z  frames 0 locals 0
-- 209 PartSongDesk$Part isHeld ()Z  frames 0 locals 0
-- 210 PartSongDesk$Part isHeld ()Z  frames 0 locals 0
-- 211 PartSongDesk$Part isHeld ()Z  frames 0 locals 0
-- 212 PartSongDesk$Part isHeld ()Z  frames 0 locals 0
-- 213 PartSongDesk$Part isHeld ()Z  frames 0 locals 0
-- 214 PartSongDesk$Part isHeld ()Z  frames 0 locals 0
-- 215 PartSongDesk$Part isHeld ()Z  frames 0 locals 0
-- 216 PartSongDesk$Part isHeld ()Z  frames 0 locals 0
-- 217 PartSongDesk$Part isHeld ()Z  frames 0 locals 0
-- 218 PartSongDesk$Part isHeld ()Z  frames 0 locals 0
-- 219 PartSongDesk$Part isHeld ()Z  frames 0 locals 0
-- 220 PartSongDesk$Part isHeld ()Z  frames 0 locals 0
-- 221 PartSongDesk$Part isHeld ()Z  frames 0 locals 0
-- 222 PartSongDesk$Part isHeld ()Z  frames 0 locals 0
-- 223 PartSongDesk$Part isHeld ()Z  frames 0 locals 0
-- 224 PartSongDesk$Part isHeld ()Z  frames 0 locals 0
-- 225 PartSongDesk$Part isHeld ()Z  frames 0 locals 0
-- 226 PartSongDesk$Part isHeld ()Z  frames 0 locals 0
-- 227 PartSongDesk$Part isHeld ()Z  frames 0 locals 0
-- 228 PartSongDesk$Part isHeld ()Z  frames 0 locals 0
-- 229 PartSongDesk$Part isHeld ()Z  frames 0 locals 0
-- 230 PartSongDesk$Part isHeld ()Z  frames 0 locals 0
-- 231 java/lang/Math max (II)I  frames 0 locals 0
-- 232 java/lang/Math min (II)I  frames 0 locals 0
-- 233 java/lang/Math floorMod (II)I  frames 0 locals 0
-- 234 java/lang/Math abs (I)I  frames 0 locals 0
-- 235 java/lang/Integer bitCount (I)I  frames 0 locals 0
-- 236 java/util/Arrays fill ([II)V  frames 0 locals 0
-- 237 PartSongDeskLaw law ([I)Z  frames 11 locals 270
def zyL : List MethodName := [⟨"PartSongDesk$Copy", "<init>", "()V"⟩, ⟨"PartSongDesk$Copy", "isLentOf", "(I)Z"⟩, ⟨"PartSongDesk$Corrections", "<init>", "()V"⟩, ⟨"PartSongDesk$Corrections", "apply", "(LPartSongDesk$Tokens;LPartSongDesk$Marks;LPartSongDesk$Tokens;)V"⟩, ⟨"PartSongDesk$Corrections", "applyOne", "(ILPartSongDesk$Tokens;LPartSongDesk$Tokens;)V"⟩, ⟨"PartSongDesk$Corrections", "isValue", "(II)Z"⟩, ⟨"PartSongDesk$Corrections", "isLength", "(I)Z"⟩, ⟨"PartSongDesk$Corrections", "isFor", "(II)Z"⟩, ⟨"PartSongDesk$Corrections", "add", "(III)I"⟩, ⟨"PartSongDesk$Grammar", "<init>", "()V"⟩, ⟨"PartSongDesk$Grammar", "check", "(LPartSongDesk$Tokens;)V"⟩, ⟨"PartSongDesk$Grammar", "headerFault", "(LPartSongDesk$Tokens;I)I"⟩, ⟨"PartSongDesk$Grammar", "bodyFault", "(LPartSongDesk$Tokens;I)I"⟩, ⟨"PartSongDesk$Grammar", "openRepeat", "(I)I"⟩, ⟨"PartSongDesk$Grammar", "isBehindEnding", "()Z"⟩, ⟨"PartSongDesk$Grammar", "closeRepeat", "(LPartSongDesk$Tokens;I)I"⟩, ⟨"PartSongDesk$Grammar", "openEnding", "(LPartSongDesk$Tokens;I)I"⟩, ⟨"PartSongDesk$Grammar", "closeEnding", "(LPartSongDesk$Tokens;I)I"⟩, ⟨"PartSongDesk$Learning", "<init>", "()V"⟩, ⟨"PartSongDesk$Learning", "learn", "(IILPartSongDesk$Music;I)V"⟩, ⟨"PartSongDesk$Learning", "indexOf", "(III)I"⟩, ⟨"PartSongDesk$Learning", "knows", "(IILPartSongDesk$Music;I)Z"⟩, ⟨"PartSongDesk$Learning", "timesOf", "(III)I"⟩, ⟨"PartSongDesk$Learning", "learnedOtherwise", "(IILPartSongDesk$Music;)I"⟩, ⟨"PartSongDesk$Learning", "knowsAll", "(IILPartSongDesk$Music;)Z"⟩, ⟨"PartSongDesk$Marks", "<init>", "()V"⟩, ⟨"PartSongDesk$Marks", "become", "(LPartSongDesk$Marks;)V"⟩, ⟨"PartSongDesk$Marks", "takeIn", "(LPartSongDesk$Marks;)I"⟩, ⟨"PartSongDesk$Marks", "add", "(I)V"⟩, ⟨"PartSongDesk$Music", "<init>", "()V"⟩, ⟨"PartSongDesk$Music", "has", "(I)Z"⟩, ⟨"PartSongDesk$Music", "earlyTicks", "(I)J"⟩, ⟨"PartSongDesk$Music", "lateTicks", "(I)J"⟩, ⟨"PartSongDesk$Music", "clear", "(I)V"⟩, ⟨"PartSongDesk$Music", "fail", "(II)V"⟩, ⟨"PartSongDesk$Music", "add", "([II)V"⟩, ⟨"PartSongDesk$Music", "pitchAt", "(II)I"⟩, ⟨"PartSongDesk$Music", "soundAt", "(II)I"⟩, ⟨"PartSongDesk$Music", "noteBeginsAt", "(II)Z"⟩, ⟨"PartSongDesk$Music", "barsUnlike", "(LPartSongDesk$Music;)I"⟩, ⟨"PartSongDesk$Music", "clashesWith", "(LPartSongDesk$Music;II)I"⟩, ⟨"PartSongDesk$Music", "isHarsh", "(I)Z"⟩, ⟨"PartSongDesk$Music", "isEvenWith", "(LPartSongDesk$Music;)Z"⟩, ⟨"PartSongDesk$Part", "<init>", "()V"⟩, ⟨"PartSongDesk$Part", "isHeld", "()Z"⟩, ⟨"PartSongDesk$Reader", "<init>", "()V"⟩, ⟨"PartSongDesk$Reader", "readAll", "([CILPartSongDesk$Tokens;)V"⟩, ⟨"PartSongDesk$Reader", "passSpaces", "()V"⟩, ⟨"PartSongDesk$Reader", "letterAt", "(I)C"⟩, ⟨"PartSongDesk$Reader", "readOne", "(LPartSongDesk$Tokens;)Z"⟩, ⟨"PartSongDesk$Reader", "readClef", "(LPartSongDesk$Tokens;)Z"⟩, ⟨"PartSongDesk$Reader", "take", "(LPartSongDesk$Tokens;III)Z"⟩, ⟨"PartSongDesk$Reader", "readKey", "(LPartSongDesk$Tokens;I)Z"⟩, ⟨"PartSongDesk$Reader", "digitAt", "(I)I"⟩, ⟨"PartSongDesk$Reader", "readMeter", "(LPartSongDesk$Tokens;)Z"⟩, ⟨"PartSongDesk$Reader", "readRest", "(LPartSongDesk$Tokens;)Z"⟩, ⟨"PartSongDesk$Reader", "ticksOf", "(CC)I"⟩, ⟨"PartSongDesk$Reader", "plainTicksOf", "(C)I"⟩, ⟨"PartSongDesk$Reader", "isDotted", "(CC)Z"⟩, ⟨"PartSongDesk$Reader", "readClose", "(LPartSongDesk$Tokens;)Z"⟩, ⟨"PartSongDesk$Reader", "readFirstOf", "(LPartSongDesk$Tokens;)Z"⟩, ⟨"PartSongDesk$Reader", "readNote", "(LPartSongDesk$Tokens;)Z"⟩, ⟨"PartSongDesk$Reader", "signOf", "(C)I"⟩, ⟨"PartSongDesk$Rehearsals", "<init>", "()V"⟩, ⟨"PartSongDesk$Rehearsals", "beginDay", "()I"⟩, ⟨"PartSongDesk$Rehearsals", "give", "(II)Z"⟩, ⟨"PartSongDesk$Rehearsals", "add", "(IIII)I"⟩, ⟨"PartSongDesk$Singing", "<init>", "()V"⟩, ⟨"PartSongDesk$Singing", "sing", "(LPartSongDesk$Tokens;LPartSongDesk$Marks;LPartSongDesk$Corrections;LPartSongDesk$Music;)V"⟩, ⟨"PartSongDesk$Singing", "begin", "()V"⟩, ⟨"PartSongDesk$Singing", "findSteps", "()V"⟩, ⟨"PartSongDesk$Singing", "singToken", "(LPartSongDesk$Music;)V"⟩, ⟨"PartSongDesk$Singing", "singNote", "(LPartSongDesk$Music;)V"⟩, ⟨"PartSongDesk$Singing", "changeOf", "(II)I"⟩, ⟨"PartSongDesk$Singing", "changeBySign", "(I)I"⟩, ⟨"PartSongDesk$Singing", "changeByKey", "(I)I"⟩, ⟨"PartSongDesk$Singing", "failTie", "(LPartSongDesk$Music;)V"⟩, ⟨"PartSongDesk$Singing", "fill", "(LPartSongDesk$Music;II)Z"⟩, ⟨"PartSongDesk$Singing", "singRest", "(LPartSongDesk$Music;)V"⟩, ⟨"PartSongDesk$Singing", "endBar", "(LPartSongDesk$Music;I)V"⟩, ⟨"PartSongDesk$Singing", "openRepeat", "()V"⟩, ⟨"PartSongDesk$Singing", "closeRepeat", "()V"⟩, ⟨"PartSongDesk$Singing", "finish", "(LPartSongDesk$Music;)V"⟩, ⟨"PartSongDesk$Tokens", "<init>", "()V"⟩, ⟨"PartSongDesk$Tokens", "clear", "(I)V"⟩, ⟨"PartSongDesk$Tokens", "add", "(III)V"⟩, ⟨"PartSongDesk$Tokens", "has", "(I)Z"⟩, ⟨"PartSongDesk$Tokens", "fail", "(II)V"⟩, ⟨"PartSongDesk$Tokens", "become", "(LPartSongDesk$Tokens;)V"⟩, ⟨"PartSongDesk", "<init>", "()V"⟩, ⟨"PartSongDesk", "day", "()I"⟩, ⟨"PartSongDesk", "plan", "()I"⟩, ⟨"PartSongDesk", "rehearse", "(I)Z"⟩, ⟨"PartSongDesk", "isSungFrom", "(LPartSongDesk$Copy;I)Z"⟩, ⟨"PartSongDesk", "learnFrom", "(LPartSongDesk$Copy;II)V"⟩, ⟨"PartSongDesk", "concerts", "()I"⟩, ⟨"PartSongDesk", "write", "(IIC)I"⟩, ⟨"PartSongDesk", "partOf", "(II)LPartSongDesk$Part;"⟩, ⟨"PartSongDesk$Part", "isHeld", "()Z"⟩, ⟨"PartSongDesk", "error", "(II)I"⟩, ⟨"PartSongDesk", "readPart", "(II)LPartSongDesk$Part;"⟩, ⟨"PartSongDesk", "readText", "(LPartSongDesk$Part;LPartSongDesk$Tokens;)V"⟩, ⟨"PartSongDesk", "errorAt", "(II)I"⟩, ⟨"PartSongDesk", "tokens", "(II)I"⟩, ⟨"PartSongDesk", "token", "(III)I"⟩, ⟨"PartSongDesk", "bars", "(II)I"⟩, ⟨"PartSongDesk", "pitch", "(IIII)I"⟩, ⟨"PartSongDesk", "mustHave", "(LPartSongDesk$Music;II)V"⟩, ⟨"PartSongDesk", "seconds", "(III)F"⟩, ⟨"PartSongDesk", "print", "(II)I"⟩, ⟨"PartSongDesk", "singCopy", "(LPartSongDesk$Copy;)V"⟩, ⟨"PartSongDesk", "lend", "(II)I"⟩, ⟨"PartSongDesk", "copyOf", "(I)LPartSongDesk$Copy;"⟩, ⟨"PartSongDesk", "hasCopyOf", "(II)Z"⟩, ⟨"PartSongDesk", "back", "(I)I"⟩, ⟨"PartSongDesk", "takeBack", "(LPartSongDesk$Copy;)I"⟩, ⟨"PartSongDesk", "pencil", "(IIII)I"⟩, ⟨"PartSongDesk", "holder", "(I)I"⟩, ⟨"PartSongDesk", "copyError", "(I)I"⟩, ⟨"PartSongDesk", "copyPitch", "(III)I"⟩, ⟨"PartSongDesk", "copyPitchAnew", "(III)I"⟩, ⟨"PartSongDesk", "begins", "(III)Z"⟩, ⟨"PartSongDesk", "differ", "(II)I"⟩, ⟨"PartSongDesk", "clashes", "(II)I"⟩, ⟨"PartSongDesk", "mustBePiece", "(I)V"⟩, ⟨"PartSongDesk", "clashesIn", "(III)I"⟩, ⟨"PartSongDesk", "isOfUnlikeLengths", "(II)Z"⟩, ⟨"PartSongDesk", "isOfUnlikeTicks", "(II)Z"⟩, ⟨"PartSongDesk", "clashesOf", "(II)I"⟩, ⟨"PartSongDesk", "room", "(II)I"⟩, ⟨"PartSongDesk", "ask", "(IIII)I"⟩, ⟨"PartSongDesk", "done", "(I)I"⟩, ⟨"PartSongDesk", "learned", "(IIII)I"⟩, ⟨"PartSongDesk", "mustBeSingerAndPart", "(III)V"⟩, ⟨"PartSongDesk", "misled", "(III)I"⟩, ⟨"PartSongDesk", "judge", "(I)I"⟩, ⟨"PartSongDesk", "verdictOn", "(I)I"⟩, ⟨"PartSongDesk", "isLentInAllVoices", "(I)Z"⟩, ⟨"PartSongDesk", "hasWrongCopy", "(I)Z"⟩, ⟨"PartSongDesk", "hasUnlikeCopies", "(I)Z"⟩, ⟨"PartSongDesk", "hasUnevenVoices", "(I)Z"⟩, ⟨"PartSongDesk", "isLearned", "(I)Z"⟩, ⟨"PartSongDesk", "concert", "(I)I"⟩, ⟨"PartSongDeskLaw", "sings", "(LPartSongDesk;III)Z"⟩, ⟨"PartSongDeskLaw", "fits", "(LPartSongDesk;II)Z"⟩, ⟨"PartSongDesk$Part", "isHeld", "()Z"⟩, ⟨"PartSongDesk$Part", "isHeld", "()Z"⟩, ⟨"PartSongDesk$Part", "isHeld", "()Z"⟩, ⟨"PartSongDesk$Part", "isHeld", "()Z"⟩, ⟨"PartSongDesk$Part", "isHeld", "()Z"⟩, ⟨"PartSongDesk$Part", "isHeld", "()Z"⟩, ⟨"PartSongDesk$Part", "isHeld", "()Z"⟩, ⟨"PartSongDesk$Part", "isHeld", "()Z"⟩, ⟨"PartSongDesk$Part", "isHeld", "()Z"⟩, ⟨"PartSongDesk$Part", "isHeld", "()Z"⟩, ⟨"PartSongDesk$Part", "isHeld", "()Z"⟩, ⟨"PartSongDesk$Part", "isHeld", "()Z"⟩, ⟨"PartSongDesk$Part", "isHeld", "()Z"⟩, ⟨"PartSongDesk$Part", "isHeld", "()Z"⟩, ⟨"PartSongDesk$Part", "isHeld", "()Z"⟩, ⟨"PartSongDesk$Part", "isHeld", "()Z"⟩, ⟨"PartSongDesk$Part", "isHeld", "()Z"⟩, ⟨"PartSongDesk$Part", "isHeld", "()Z"⟩, ⟨"PartSongDesk$Part", "isHeld", "()Z"⟩, ⟨"PartSongDesk$Part", "isHeld", "()Z"⟩, ⟨"PartSongDesk$Part", "isHeld", "()Z"⟩, ⟨"PartSongDesk$Part", "isHeld", "()Z"⟩, ⟨"PartSongDesk$Part", "isHeld", "()Z"⟩, ⟨"PartSongDesk$Part", "isHeld", "()Z"⟩, ⟨"PartSongDesk$Part", "isHeld", "()Z"⟩, ⟨"PartSongDesk$Part", "isHeld", "()Z"⟩, ⟨"PartSongDesk$Part", "isHeld", "()Z"⟩, ⟨"PartSongDesk$Part", "isHeld", "()Z"⟩, ⟨"PartSongDesk$Part", "isHeld", "()Z"⟩, ⟨"PartSongDesk$Part", "isHeld", "()Z"⟩, ⟨"PartSongDesk$Part", "isHeld", "()Z"⟩, ⟨"PartSongDesk$Part", "isHeld", "()Z"⟩, ⟨"PartSongDesk$Part", "isHeld", "()Z"⟩, ⟨"PartSongDesk$Part", "isHeld", "()Z"⟩, ⟨"PartSongDesk$Part", "isHeld", "()Z"⟩, ⟨"PartSongDesk$Part", "isHeld", "()Z"⟩, ⟨"PartSongDesk$Part", "isHeld", "()Z"⟩, ⟨"PartSongDesk$Part", "isHeld", "()Z"⟩, ⟨"PartSongDesk$Part", "isHeld", "()Z"⟩, ⟨"PartSongDesk$Part", "isHeld", "()Z"⟩, ⟨"PartSongDesk$Part", "isHeld", "()Z"⟩, ⟨"PartSongDesk$Part", "isHeld", "()Z"⟩, ⟨"PartSongDesk$Part", "isHeld", "()Z"⟩, ⟨"PartSongDesk$Part", "isHeld", "()Z"⟩, ⟨"PartSongDesk$Part", "isHeld", "()Z"⟩, ⟨"PartSongDesk$Part", "isHeld", "()Z"⟩, ⟨"PartSongDesk$Part", "isHeld", "()Z"⟩, ⟨"PartSongDesk$Part", "isHeld", "()Z"⟩, ⟨"PartSongDesk$Part", "isHeld", "()Z"⟩, ⟨"PartSongDesk$Part", "isHeld", "()Z"⟩, ⟨"PartSongDesk$Part", "isHeld", "()Z"⟩, ⟨"PartSongDesk$Part", "isHeld", "()Z"⟩, ⟨"PartSongDesk$Part", "isHeld", "()Z"⟩, ⟨"PartSongDesk$Part", "isHeld", "()Z"⟩, ⟨"PartSongDesk$Part", "isHeld", "()Z"⟩, ⟨"PartSongDesk$Part", "isHeld", "()Z"⟩, ⟨"PartSongDesk$Part", "isHeld", "()Z"⟩, ⟨"PartSongDesk$Part", "isHeld", "()Z"⟩, ⟨"PartSongDesk$Part", "isHeld", "()Z"⟩, ⟨"PartSongDesk$Part", "isHeld", "()Z"⟩, ⟨"PartSongDesk$Part", "isHeld", "()Z"⟩, ⟨"PartSongDesk$Part", "isHeld", "()Z"⟩, ⟨"PartSongDesk$Part", "isHeld", "()Z"⟩, ⟨"PartSongDesk$Part", "isHeld", "()Z"⟩, ⟨"PartSongDesk$Part", "isHeld", "()Z"⟩, ⟨"PartSongDesk$Part", "isHeld", "()Z"⟩, ⟨"PartSongDesk$Part", "isHeld", "()Z"⟩, ⟨"PartSongDesk$Part", "isHeld", "()Z"⟩, ⟨"PartSongDesk$Part", "isHeld", "()Z"⟩, ⟨"PartSongDesk$Part", "isHeld", "()Z"⟩, ⟨"PartSongDesk$Part", "isHeld", "()Z"⟩, ⟨"PartSongDesk$Part", "isHeld", "()Z"⟩, ⟨"PartSongDesk$Part", "isHeld", "()Z"⟩, ⟨"PartSongDesk$Part", "isHeld", "()Z"⟩, ⟨"PartSongDesk$Part", "isHeld", "()Z"⟩, ⟨"PartSongDesk$Part", "isHeld", "()Z"⟩, ⟨"PartSongDesk$Part", "isHeld", "()Z"⟩, ⟨"PartSongDesk$Part", "isHeld", "()Z"⟩, ⟨"PartSongDesk$Part", "isHeld", "()Z"⟩, ⟨"PartSongDesk$Part", "isHeld", "()Z"⟩, ⟨"PartSongDesk$Part", "isHeld", "()Z"⟩, ⟨"PartSongDesk$Part", "isHeld", "()Z"⟩, ⟨"PartSongDesk$Part", "isHeld", "()Z"⟩, ⟨"PartSongDesk$Part", "isHeld", "()Z"⟩, ⟨"PartSongDesk$Part", "isHeld", "()Z"⟩, ⟨"PartSongDesk$Part", "isHeld", "()Z"⟩, ⟨"java/lang/Math", "max", "(II)I"⟩, ⟨"java/lang/Math", "min", "(II)I"⟩, ⟨"java/lang/Math", "floorMod", "(II)I"⟩, ⟨"java/lang/Math", "abs", "(I)I"⟩, ⟨"java/lang/Integer", "bitCount", "(I)I"⟩, ⟨"java/util/Arrays", "fill", "([II)V"⟩, ⟨"PartSongDeskLaw", "law", "([I)Z"⟩]
def zbL : List ByteArray := [prog_2_method_1_code, prog_2_method_2_code, prog_3_method_1_code, prog_3_method_6_code, prog_3_method_7_code, prog_3_method_2_code, prog_3_method_3_code, prog_3_method_4_code, prog_3_method_5_code, prog_4_method_1_code, prog_4_method_2_code, prog_4_method_3_code, prog_4_method_4_code, prog_4_method_6_code, prog_4_method_5_code, prog_4_method_7_code, prog_4_method_8_code, prog_4_method_9_code, prog_5_method_1_code, prog_5_method_4_code, prog_5_method_2_code, prog_5_method_5_code, prog_5_method_3_code, prog_5_method_7_code, prog_5_method_6_code, prog_6_method_1_code, prog_6_method_3_code, prog_6_method_4_code, prog_6_method_2_code, prog_7_method_1_code, prog_7_method_4_code, prog_7_method_6_code, prog_7_method_7_code, prog_7_method_2_code, prog_7_method_3_code, prog_7_method_5_code, prog_7_method_9_code, prog_7_method_8_code, prog_7_method_10_code, prog_7_method_11_code, prog_7_method_12_code, prog_7_method_13_code, prog_7_method_14_code, prog_8_method_1_code, prog_8_method_2_code, prog_9_method_1_code, prog_9_method_2_code, prog_9_method_3_code, prog_9_method_4_code, prog_9_method_5_code, prog_9_method_7_code, prog_9_method_6_code, prog_9_method_8_code, prog_9_method_15_code, prog_9_method_9_code, prog_9_method_12_code, prog_9_method_16_code, prog_9_method_18_code, prog_9_method_17_code, prog_9_method_10_code, prog_9_method_11_code, prog_9_method_13_code, prog_9_method_14_code, prog_10_method_1_code, prog_10_method_3_code, prog_10_method_4_code, prog_10_method_2_code, prog_11_method_1_code, prog_11_method_2_code, prog_11_method_3_code, prog_11_method_4_code, prog_11_method_5_code, prog_11_method_8_code, prog_11_method_14_code, prog_11_method_15_code, prog_11_method_16_code, prog_11_method_10_code, prog_11_method_11_code, prog_11_method_9_code, prog_11_method_12_code, prog_11_method_6_code, prog_11_method_7_code, prog_11_method_13_code, prog_12_method_1_code, prog_12_method_3_code, prog_12_method_5_code, prog_12_method_2_code, prog_12_method_4_code, prog_12_method_6_code, prog_1_method_1_code, prog_1_method_23_code, prog_1_method_26_code, prog_1_method_46_code, prog_1_method_47_code, prog_1_method_48_code, prog_1_method_32_code, prog_1_method_2_code, prog_1_method_34_code, prog_8_method_2_code, prog_1_method_4_code, prog_1_method_38_code, prog_1_method_39_code, prog_1_method_5_code, prog_1_method_6_code, prog_1_method_7_code, prog_1_method_8_code, prog_1_method_9_code, prog_1_method_37_code, prog_1_method_10_code, prog_1_method_11_code, prog_1_method_40_code, prog_1_method_12_code, prog_1_method_36_code, prog_1_method_42_code, prog_1_method_13_code, prog_1_method_41_code, prog_1_method_14_code, prog_1_method_15_code, prog_1_method_16_code, prog_1_method_17_code, prog_1_method_18_code, prog_1_method_19_code, prog_1_method_20_code, prog_1_method_21_code, prog_1_method_33_code, prog_1_method_43_code, prog_1_method_44_code, prog_1_method_45_code, prog_1_method_22_code, prog_1_method_24_code, prog_1_method_25_code, prog_1_method_27_code, prog_1_method_28_code, prog_1_method_35_code, prog_1_method_29_code, prog_1_method_30_code, prog_1_method_49_code, prog_1_method_50_code, prog_1_method_51_code, prog_1_method_52_code, prog_1_method_53_code, prog_1_method_54_code, prog_1_method_31_code, method_31_code, method_32_code, prog_8_method_2_code, prog_8_method_2_code, prog_8_method_2_code, prog_8_method_2_code, prog_8_method_2_code, prog_8_method_2_code, prog_8_method_2_code, prog_8_method_2_code, prog_8_method_2_code, prog_8_method_2_code, prog_8_method_2_code, prog_8_method_2_code, prog_8_method_2_code, prog_8_method_2_code, prog_8_method_2_code, prog_8_method_2_code, prog_8_method_2_code, prog_8_method_2_code, prog_8_method_2_code, prog_8_method_2_code, prog_8_method_2_code, prog_8_method_2_code, prog_8_method_2_code, prog_8_method_2_code, prog_8_method_2_code, prog_8_method_2_code, prog_8_method_2_code, prog_8_method_2_code, prog_8_method_2_code, prog_8_method_2_code, prog_8_method_2_code, prog_8_method_2_code, prog_8_method_2_code, prog_8_method_2_code, prog_8_method_2_code, prog_8_method_2_code, prog_8_method_2_code, prog_8_method_2_code, prog_8_method_2_code, prog_8_method_2_code, prog_8_method_2_code, prog_8_method_2_code, prog_8_method_2_code, prog_8_method_2_code, prog_8_method_2_code, prog_8_method_2_code, prog_8_method_2_code, prog_8_method_2_code, prog_8_method_2_code, prog_8_method_2_code, prog_8_method_2_code, prog_8_method_2_code, prog_8_method_2_code, prog_8_method_2_code, prog_8_method_2_code, prog_8_method_2_code, prog_8_method_2_code, prog_8_method_2_code, prog_8_method_2_code, prog_8_method_2_code, prog_8_method_2_code, prog_8_method_2_code, prog_8_method_2_code, prog_8_method_2_code, prog_8_method_2_code, prog_8_method_2_code, prog_8_method_2_code, prog_8_method_2_code, prog_8_method_2_code, prog_8_method_2_code, prog_8_method_2_code, prog_8_method_2_code, prog_8_method_2_code, prog_8_method_2_code, prog_8_method_2_code, prog_8_method_2_code, prog_8_method_2_code, prog_8_method_2_code, prog_8_method_2_code, prog_8_method_2_code, prog_8_method_2_code, prog_8_method_2_code, prog_8_method_2_code, prog_8_method_2_code, prog_8_method_2_code, prog_8_method_2_code, prog_20_method_65_code, prog_20_method_69_code, prog_20_method_50_code, prog_20_method_59_code, prog_19_method_49_code, prog_24_method_103_code, code]
def zlL : List Nat := [1, 2, 1, 5, 7, 3, 2, 3, 4, 1, 4, 4, 3, 2, 1, 3, 3, 3, 1, 6, 4, 6, 4, 6, 5, 1, 3, 4, 2, 1, 2, 2, 2, 2, 3, 5, 4, 5, 3, 4, 8, 3, 2, 1, 1, 1, 5, 1, 3, 2, 3, 5, 4, 3, 5, 4, 4, 2, 3, 3, 3, 9, 2, 2, 3, 5, 5, 1, 6, 1, 4, 2, 7, 3, 2, 2, 2, 6, 2, 3, 1, 1, 2, 1, 2, 4, 2, 3, 3, 2, 1, 3, 4, 3, 5, 1, 5, 3, 1, 3, 4, 3, 3, 3, 5, 4, 6, 4, 5, 5, 2, 4, 2, 4, 3, 4, 8, 2, 2, 5, 5, 5, 5, 5, 2, 10, 7, 6, 5, 4, 5, 2, 5, 4, 5, 2, 2, 4, 3, 4, 4, 3, 4, 11, 9, 1, 1, 1, 1, 1, 1, 1, 1, 1, 1, 1, 1, 1, 1, 1, 1, 1, 1, 1, 1, 1, 1, 1, 1, 1, 1, 1, 1, 1, 1, 1, 1, 1, 1, 1, 1, 1, 1, 1, 1, 1, 1, 1, 1, 1, 1, 1, 1, 1, 1, 1, 1, 1, 1, 1, 1, 1, 1, 1, 1, 1, 1, 1, 1, 1, 1, 1, 1, 1, 1, 1, 1, 1, 1, 1, 1, 1, 1, 1, 1, 1, 1, 1, 1, 1, 1, 2, 2, 3, 1, 1, 4, 24]
def zrL : List (Option FieldType) := [none, (some .boolean), none, none, none, (some .boolean), (some .boolean), (some .boolean), (some .int), none, none, (some .int), (some .int), (some .int), (some .boolean), (some .int), (some .int), (some .int), none, none, (some .int), (some .boolean), (some .int), (some .int), (some .boolean), none, none, (some .int), none, none, (some .boolean), (some .long), (some .long), none, none, none, (some .int), (some .int), (some .boolean), (some .int), (some .int), (some .boolean), (some .boolean), none, (some .boolean), none, none, none, (some .char), (some .boolean), (some .boolean), (some .boolean), (some .boolean), (some .int), (some .boolean), (some .boolean), (some .int), (some .int), (some .boolean), (some .boolean), (some .boolean), (some .boolean), (some .int), none, (some .int), (some .boolean), (some .int), none, none, none, none, none, none, (some .int), (some .int), (some .int), none, (some .boolean), none, none, none, none, none, none, none, none, (some .boolean), none, none, none, (some .int), (some .int), (some .boolean), (some .boolean), none, (some .int), (some .int), (some (.object "PartSongDesk$Part")), (some .boolean), (some .int), (some (.object "PartSongDesk$Part")), none, (some .int), (some .int), (some .int), (some .int), (some .int), none, (some .float), (some .int), none, (some .int), (some (.object "PartSongDesk$Copy")), (some .boolean), (some .int), (some .int), (some .int), (some .int), (some .int), (some .int), (some .int), (some .boolean), (some .int), (some .int), none, (some .int), (some .boolean), (some .boolean), (some .int), (some .int), (some .int), (some .int), (some .int), none, (some .int), (some .int), (some .int), (some .boolean), (some .boolean), (some .boolean), (some .boolean), (some .boolean), (some .int), (some .boolean), (some .boolean), (some .boolean), (some .boolean), (some .boolean), (some .boolean), (some .boolean), (some .boolean), (some .boolean), (some .boolean), (some .boolean), (some .boolean), (some .boolean), (some .boolean), (some .boolean), (some .boolean), (some .boolean), (some .boolean), (some .boolean), (some .boolean), (some .boolean), (some .boolean), (some .boolean), (some .boolean), (some .boolean), (some .boolean), (some .boolean), (some .boolean), (some .boolean), (some .boolean), (some .boolean), (some .boolean), (some .boolean), (some .boolean), (some .boolean), (some .boolean), (some .boolean), (some .boolean), (some .boolean), (some .boolean), (some .boolean), (some .boolean), (some .boolean), (some .boolean), (some .boolean), (some .boolean), (some .boolean), (some .boolean), (some .boolean), (some .boolean), (some .boolean), (some .boolean), (some .boolean), (some .boolean), (some .boolean), (some .boolean), (some .boolean), (some .boolean), (some .boolean), (some .boolean), (some .boolean), (some .boolean), (some .boolean), (some .boolean), (some .boolean), (some .boolean), (some .boolean), (some .boolean), (some .boolean), (some .boolean), (some .boolean), (some .boolean), (some .boolean), (some .boolean), (some .boolean), (some .boolean), (some .boolean), (some .boolean), (some .boolean), (some .boolean), (some .boolean), (some .boolean), (some .boolean), (some .boolean), (some .boolean), (some .boolean), (some .boolean), (some .boolean), (some .int), (some .int), (some .int), (some .int), (some .int), none, (some .boolean)]
def zcL : List Nat := [0, 0, 1, 1, 1, 1, 1, 1, 1, 2, 2, 2, 2, 2, 2, 2, 2, 2, 3, 3, 3, 3, 3, 3, 3, 4, 4, 4, 4, 5, 5, 5, 5, 5, 5, 5, 5, 5, 5, 5, 5, 5, 5, 6, 6, 7, 7, 7, 7, 7, 7, 7, 7, 7, 7, 7, 7, 7, 7, 7, 7, 7, 7, 8, 8, 8, 8, 9, 9, 9, 9, 9, 9, 9, 9, 9, 9, 9, 9, 9, 9, 9, 9, 10, 10, 10, 10, 10, 10, 11, 11, 11, 11, 11, 11, 11, 11, 11, 6, 11, 11, 11, 11, 11, 11, 11, 11, 11, 11, 11, 11, 11, 11, 11, 11, 11, 11, 11, 11, 11, 11, 11, 11, 11, 11, 11, 11, 11, 11, 11, 11, 11, 11, 11, 11, 11, 11, 11, 11, 11, 11, 11, 11, 16, 16, 6, 6, 6, 6, 6, 6, 6, 6, 6, 6, 6, 6, 6, 6, 6, 6, 6, 6, 6, 6, 6, 6, 6, 6, 6, 6, 6, 6, 6, 6, 6, 6, 6, 6, 6, 6, 6, 6, 6, 6, 6, 6, 6, 6, 6, 6, 6, 6, 6, 6, 6, 6, 6, 6, 6, 6, 6, 6, 6, 6, 6, 6, 6, 6, 6, 6, 6, 6, 6, 6, 6, 6, 6, 6, 6, 6, 6, 6, 6, 6, 6, 6, 6, 6, 6, 6, 13, 13, 13, 13, 14, 15, 16]
def zaL : List Nat := [0, 1, 0, 3, 3, 2, 1, 2, 3, 0, 1, 2, 2, 1, 0, 2, 2, 2, 0, 4, 3, 4, 3, 3, 3, 0, 1, 1, 1, 0, 1, 1, 1, 1, 2, 2, 2, 2, 2, 1, 3, 1, 1, 0, 0, 0, 3, 0, 1, 1, 1, 4, 2, 1, 1, 1, 2, 1, 2, 1, 1, 1, 1, 0, 0, 2, 4, 0, 4, 0, 0, 1, 1, 2, 1, 1, 1, 3, 1, 2, 0, 0, 1, 0, 1, 3, 1, 2, 1, 0, 0, 0, 1, 2, 3, 0, 3, 2, 0, 2, 2, 2, 2, 2, 3, 2, 4, 3, 3, 2, 1, 2, 1, 2, 1, 1, 4, 1, 1, 3, 3, 3, 2, 2, 1, 3, 2, 2, 2, 2, 4, 1, 4, 3, 3, 1, 1, 1, 1, 1, 1, 1, 1, 4, 3, 0, 0, 0, 0, 0, 0, 0, 0, 0, 0, 0, 0, 0, 0, 0, 0, 0, 0, 0, 0, 0, 0, 0, 0, 0, 0, 0, 0, 0, 0, 0, 0, 0, 0, 0, 0, 0, 0, 0, 0, 0, 0, 0, 0, 0, 0, 0, 0, 0, 0, 0, 0, 0, 0, 0, 0, 0, 0, 0, 0, 0, 0, 0, 0, 0, 0, 0, 0, 0, 0, 0, 0, 0, 0, 0, 0, 0, 0, 0, 0, 0, 0, 0, 0, 0, 0, 2, 2, 2, 1, 1, 2, 1]
def zkL : List Nat := [2, 0, 2, 0, 0, 0, 0, 0, 0, 2, 0, 0, 0, 0, 0, 0, 0, 0, 2, 0, 0, 0, 0, 0, 0, 2, 0, 0, 0, 2, 0, 0, 0, 0, 0, 0, 0, 0, 0, 0, 0, 0, 0, 2, 0, 2, 0, 0, 0, 0, 0, 0, 0, 0, 0, 0, 0, 0, 0, 0, 0, 0, 0, 2, 0, 0, 0, 2, 0, 0, 0, 0, 0, 0, 0, 0, 0, 0, 0, 0, 0, 0, 0, 2, 0, 0, 0, 0, 0, 2, 0, 0, 0, 0, 0, 0, 0, 0, 0, 0, 0, 0, 0, 0, 0, 0, 0, 0, 0, 0, 0, 0, 0, 0, 0, 0, 0, 0, 0, 0, 0, 0, 0, 0, 0, 0, 0, 0, 0, 0, 0, 0, 0, 0, 0, 0, 0, 0, 0, 0, 0, 0, 0, 1, 1, 0, 0, 0, 0, 0, 0, 0, 0, 0, 0, 0, 0, 0, 0, 0, 0, 0, 0, 0, 0, 0, 0, 0, 0, 0, 0, 0, 0, 0, 0, 0, 0, 0, 0, 0, 0, 0, 0, 0, 0, 0, 0, 0, 0, 0, 0, 0, 0, 0, 0, 0, 0, 0, 0, 0, 0, 0, 0, 0, 0, 0, 0, 0, 0, 0, 0, 0, 0, 0, 0, 0, 0, 0, 0, 0, 0, 0, 0, 0, 0, 0, 0, 0, 0, 0, 0, 1, 1, 1, 1, 1, 1, 0]
def zfL : List Nat := [2, 0, 1, 1, 0, 1, 0, 0, 0, 1, 3, 0, 2, 1, 0, 0, 0, 1, 1, 3, 0, 2, 1, 3, 3, 1, 0, 1, 0, 1, 0, 1, 1, 0, 0, 0, 3, 2, 3, 2, 4, 1, 0, 2, 0, 1, 4, 1, 0, 3, 2, 1, 2, 1, 2, 2, 1, 0, 1, 2, 2, 2, 0, 1, 0, 1, 0, 2, 4, 1, 0, 3, 2, 1, 0, 0, 1, 1, 2, 1, 0, 1, 2, 1, 0, 0, 0, 0, 0, 3, 1, 6, 5, 1, 4, 0, 7, 6, 0, 8, 7, 5, 8, 8, 8, 8, 8, 6, 8, 8, 5, 7, 6, 0, 7, 5, 7, 7, 7, 7, 7, 7, 7, 7, 6, 5, 1, 1, 7, 6, 7, 6, 7, 6, 7, 7, 5, 1, 1, 3, 1, 4, 7, 10, 10, 0, 0, 0, 0, 0, 0, 0, 0, 0, 0, 0, 0, 0, 0, 0, 0, 0, 0, 0, 0, 0, 0, 0, 0, 0, 0, 0, 0, 0, 0, 0, 0, 0, 0, 0, 0, 0, 0, 0, 0, 0, 0, 0, 0, 0, 0, 0, 0, 0, 0, 0, 0, 0, 0, 0, 0, 0, 0, 0, 0, 0, 0, 0, 0, 0, 0, 0, 0, 0, 0, 0, 0, 0, 0, 0, 0, 0, 0, 0, 0, 0, 0, 0, 0, 0, 0, 0, 0, 0, 0, 0, 0, 11]
def zwL : List Nat := [40, 0, 20, 26, 0, 21, 0, 0, 0, 20, 65, 0, 43, 20, 0, 0, 0, 21, 20, 67, 0, 42, 23, 67, 67, 20, 0, 21, 0, 20, 0, 21, 21, 0, 0, 0, 66, 42, 66, 42, 89, 20, 0, 40, 0, 20, 96, 22, 0, 75, 47, 23, 47, 22, 47, 47, 21, 0, 21, 47, 47, 47, 0, 20, 0, 20, 0, 40, 94, 23, 0, 73, 47, 22, 0, 0, 22, 22, 47, 24, 0, 21, 46, 20, 0, 0, 0, 0, 0, 60, 22, 139, 116, 21, 92, 0, 112, 90, 0, 165, 142, 120, 165, 165, 165, 165, 165, 90, 165, 165, 119, 140, 90, 0, 142, 119, 140, 111, 111, 113, 142, 113, 111, 145, 90, 116, 21, 21, 145, 90, 111, 90, 113, 90, 113, 134, 113, 21, 21, 65, 21, 91, 142, 240, 240, 0, 0, 0, 0, 0, 0, 0, 0, 0, 0, 0, 0, 0, 0, 0, 0, 0, 0, 0, 0, 0, 0, 0, 0, 0, 0, 0, 0, 0, 0, 0, 0, 0, 0, 0, 0, 0, 0, 0, 0, 0, 0, 0, 0, 0, 0, 0, 0, 0, 0, 0, 0, 0, 0, 0, 0, 0, 0, 0, 0, 0, 0, 0, 0, 0, 0, 0, 0, 0, 0, 0, 0, 0, 0, 0, 0, 0, 0, 0, 0, 0, 0, 0, 0, 0, 0, 0, 0, 0, 0, 0, 0, 270]
def zP0 : List (Nat × Nat × Nat × Nat) := [(3, 10, 0, 0), (9, 1, 0, 1), (15, 3, 4, 0), (17, 12, 25, 0), (18, 1, 0, 2), (22, 3, 5, 0), (24, 12, 29, 0), (25, 1, 0, 3), (29, 1, 0, 0)]
def zP1 : List (Nat × Nat × Nat × Nat) := [(3, 10, 0, 0), (9, 1, 1, 1), (15, 1, 1, 2), (18, 1, 1, 3), (21, 2, 6, 0), (25, 1, 1, 0), (29, 2, 88, 0), (35, 1, 4, 0), (41, 2, 86, 0), (43, 2, 4, 0), (47, 1, 10, 6), (50, 1, 10, 7), (53, 1, 10, 8), (56, 1, 10, 9), (59, 1, 10, 4)]
def zP2 : List (Nat × Nat × Nat × Nat) := [(3, 10, 0, 0), (11, 1, 2, 0), (15, 1, 2, 1), (18, 1, 2, 2), (22, 1, 2, 3), (25, 1, 10, 0), (30, 2, 11, 0), (34, 2, 12, 0), (37, 1, 10, 5), (40, 2, 87, 0), (44, 1, 10, 1), (47, 1, 10, 4), (50, 2, 13, 0), (54, 2, 15, 0), (57, 2, 16, 0), (60, 2, 17, 0), (63, 2, 14, 0), (67, 1, 10, 6), (70, 1, 10, 11), (73, 2, 86, 0)]
def zP3 : List (Nat × Nat × Nat × Nat) := [(3, 10, 0, 0), (9, 1, 3, 0), (15, 1, 3, 1), (19, 1, 3, 2), (22, 2, 20, 0), (26, 2, 21, 0), (30, 2, 31, 0), (36, 2, 32, 0), (39, 2, 30, 0), (43, 1, 5, 2), (47, 2, 22, 0)]
def zP4 : List (Nat × Nat × Nat × Nat) := [(3, 10, 0, 0), (9, 1, 4, 0), (15, 1, 4, 1), (19, 2, 28, 0)]
def zP5 : List (Nat × Nat × Nat × Nat) := [(3, 10, 0, 0), (9, 1, 5, 4), (15, 1, 5, 0), (19, 1, 5, 1), (22, 1, 5, 2), (25, 1, 5, 3), (28, 2, 30, 0), (32, 2, 31, 0), (36, 2, 32, 0), (39, 2, 37, 0), (43, 2, 36, 0), (46, 2, 38, 0), (50, 2, 41, 0), (53, 2, 234, 0)]
def zP6 : List (Nat × Nat × Nat × Nat) := [(3, 10, 0, 0), (9, 1, 6, 0), (15, 3, 10, 0), (17, 12, 83, 0), (18, 1, 6, 6), (22, 3, 4, 0), (24, 12, 25, 0), (25, 1, 6, 7), (29, 3, 5, 0), (31, 12, 29, 0), (32, 1, 6, 8), (36, 1, 6, 3), (40, 1, 5, 0)]
def zP7 : List (Nat × Nat × Nat × Nat) := [(3, 10, 0, 0), (9, 1, 7, 0), (15, 2, 232, 0), (21, 1, 7, 1), (25, 1, 7, 2), (28, 2, 84, 0), (34, 1, 10, 2), (37, 2, 47, 0), (40, 1, 10, 0), (43, 2, 49, 0), (47, 2, 87, 0), (51, 2, 48, 0), (55, 2, 50, 0), (58, 2, 52, 0), (62, 2, 54, 0), (65, 2, 55, 0), (68, 2, 51, 0), (72, 2, 59, 0), (75, 2, 60, 0), (78, 2, 61, 0), (81, 2, 85, 0), (85, 2, 53, 0), (89, 2, 56, 0), (93, 2, 58, 0), (97, 2, 86, 0), (101, 1, 10, 9), (105, 2, 62, 0), (109, 1, 10, 7), (112, 1, 10, 8), (115, 1, 10, 10), (119, 2, 57, 0)]
def zP8 : List (Nat × Nat × Nat × Nat) := [(3, 10, 0, 0), (9, 1, 8, 0), (15, 1, 8, 1), (18, 1, 8, 2), (21, 1, 8, 3), (24, 1, 8, 4), (27, 1, 8, 6), (30, 1, 8, 8), (34, 1, 8, 9), (37, 1, 8, 5), (41, 1, 8, 7), (44, 2, 235, 0)]
def zP9 : List (Nat × Nat × Nat × Nat) := [(3, 10, 0, 0), (9, 3, 10, 0), (11, 12, 83, 0), (12, 1, 9, 0), (18, 1, 9, 1), (22, 1, 9, 2), (25, 1, 9, 3), (30, 1, 9, 5), (33, 1, 10, 2), (37, 1, 10, 0), (40, 2, 33, 0), (46, 1, 10, 3), (49, 2, 34, 0), (53, 2, 3, 0), (59, 2, 69, 0), (62, 1, 10, 6), (65, 5, 1000000, 0), (66, 1, 9, 7), (69, 2, 86, 0), (73, 1, 5, 0), (74, 2, 71, 0), (78, 2, 82, 0), (81, 1, 9, 8), (84, 1, 9, 4), (87, 1, 9, 6), (90, 1, 9, 9), (93, 2, 236, 0), (99, 2, 70, 0), (102, 1, 10, 4), (105, 1, 10, 7), (108, 2, 72, 0), (111, 2, 78, 0), (114, 1, 10, 5), (117, 2, 79, 0), (121, 2, 80, 0), (124, 2, 81, 0), (127, 1, 10, 11), (130, 2, 231, 0), (136, 1, 10, 8), (139, 1, 9, 11), (142, 2, 73, 0), (145, 8, 21, 0), (148, 2, 233, 0), (151, 1, 9, 10), (154, 2, 74, 0), (158, 2, 76, 0), (161, 2, 77, 0), (164, 1, 10, 10), (168, 1, 10, 9), (171, 1, 5, 3), (174, 1, 5, 2), (177, 2, 35, 0), (180, 1, 10, 1), (183, 2, 75, 0), (186, 8, 22, 0)]
def zP10 : List (Nat × Nat × Nat × Nat) := [(3, 10, 0, 0), (9, 1, 10, 4), (15, 1, 10, 5), (18, 1, 10, 6), (21, 1, 10, 7), (24, 1, 10, 8), (27, 1, 10, 9), (30, 1, 10, 10), (34, 1, 10, 11), (37, 1, 10, 0), (41, 1, 10, 1), (44, 1, 10, 2), (47, 1, 10, 3)]
def zP11 : List (Nat × Nat × Nat × Nat) := [(1, 10, 0, 0), (9, 3, 6, 0), (11, 1, 11, 0), (15, 3, 0, 0), (17, 1, 11, 1), (21, 3, 1, 0), (23, 12, 2, 0), (24, 1, 11, 3), (28, 3, 7, 0), (30, 12, 45, 0), (31, 1, 11, 4), (35, 3, 2, 0), (37, 12, 9, 0), (38, 1, 11, 5), (42, 3, 9, 0), (44, 12, 67, 0), (45, 1, 11, 6), (49, 3, 10, 0), (51, 12, 83, 0), (52, 1, 11, 7), (56, 3, 5, 0), (58, 12, 29, 0), (59, 1, 11, 8), (63, 3, 8, 0), (65, 2, 63, 0), (66, 1, 11, 9), (70, 3, 3, 0), (72, 12, 18, 0), (73, 1, 11, 10), (77, 12, 43, 0), (78, 12, 0, 0), (79, 2, 97, 0), (83, 9, 1, 0), (87, 11, 0, 0), (90, 1, 6, 3), (94, 1, 6, 1), (98, 9, 2, 0), (102, 11, 0, 0), (103, 1, 6, 0), (107, 1, 6, 2), (120, 2, 100, 0), (123, 1, 6, 4), (126, 1, 6, 5), (129, 1, 6, 6), (132, 1, 10, 0), (135, 2, 86, 0), (139, 9, 0, 0), (143, 11, 0, 0), (144, 1, 10, 4), (148, 1, 6, 8), (151, 1, 5, 0), (154, 1, 5, 2), (157, 2, 107, 0), (161, 2, 36, 0), (166, 7, 3212836864, 0), (167, 1, 5, 3), (170, 7, 1097859072, 0), (171, 1, 11, 2), (176, 1, 0, 0), (179, 2, 110, 0), (183, 2, 112, 0), (189, 1, 0, 1), (192, 2, 113, 0), (198, 1, 0, 2), (202, 1, 6, 7), (203, 2, 26, 0), (209, 1, 4, 1), (214, 2, 115, 0), (218, 2, 5, 0), (223, 2, 7, 0), (226, 1, 1, 0), (229, 2, 8, 0), (233, 2, 28, 0), (236, 1, 0, 3), (237, 2, 101, 0), (241, 2, 68, 0), (245, 2, 38, 0), (252, 2, 39, 0), (256, 2, 124, 0), (261, 2, 125, 0), (266, 2, 64, 0), (274, 1, 8, 6), (279, 1, 8, 5), (284, 2, 66, 0), (287, 1, 8, 4), (290, 2, 92, 0), (295, 2, 133, 0), (299, 2, 22, 0), (302, 2, 23, 0), (306, 2, 136, 0), (312, 2, 1, 0), (315, 1, 11, 11), (326, 2, 30, 0), (329, 1, 5, 1), (332, 2, 46, 0), (336, 1, 10, 2), (337, 2, 10, 0), (341, 2, 27, 0), (345, 2, 126, 0), (348, 2, 127, 0), (351, 2, 44, 0), (355, 2, 40, 0), (359, 2, 93, 0), (363, 2, 65, 0), (366, 1, 8, 2), (369, 1, 8, 3), (372, 2, 94, 0), (376, 1, 8, 0), (379, 1, 8, 1), (382, 2, 19, 0), (386, 2, 137, 0), (389, 2, 138, 0), (392, 2, 139, 0), (395, 2, 140, 0), (398, 2, 141, 0), (401, 2, 42, 0), (405, 2, 24, 0)]
def zP12 : List (Nat × Nat × Nat × Nat) := []
def zP13 : List (Nat × Nat × Nat × Nat) := []
def zP14 : List (Nat × Nat × Nat × Nat) := [(265, 5, 1431655765, 0), (266, 5, 858993459, 0), (267, 5, 252645135, 0)]
def zP15 : List (Nat × Nat × Nat × Nat) := []
def zP16 : List (Nat × Nat × Nat × Nat) := [(7, 5, 53003, 0), (8, 5, 2147483647, 0), (9, 2, 96, 0), (10, 3, 11, 0), (15, 9, 0, 0), (17, 9, 1, 0), (19, 9, 2, 0), (25, 2, 99, 0), (29, 2, 102, 0), (32, 2, 103, 0), (35, 2, 104, 0), (38, 2, 105, 0), (41, 2, 106, 0), (45, 2, 108, 0), (49, 2, 109, 0), (52, 2, 111, 0), (55, 2, 114, 0), (59, 2, 116, 0), (62, 2, 117, 0), (65, 2, 118, 0), (68, 2, 119, 0), (71, 2, 120, 0), (74, 2, 121, 0), (78, 2, 122, 0), (81, 2, 123, 0), (84, 2, 128, 0), (87, 2, 129, 0), (90, 2, 130, 0), (93, 2, 131, 0), (96, 2, 132, 0), (99, 2, 134, 0), (102, 2, 135, 0), (105, 2, 142, 0), (108, 13, 0, 0), (113, 13, 13, 0), (116, 13, 14, 0), (118, 13, 16, 0), (120, 13, 15, 0), (123, 13, 17, 0), (126, 2, 89, 0), (127, 13, 27, 0), (131, 2, 143, 0), (135, 13, 1, 0), (137, 13, 2, 0), (139, 13, 5, 0), (141, 13, 8, 0), (143, 13, 9, 0), (145, 13, 10, 0), (147, 13, 3, 0), (149, 13, 4, 0), (151, 13, 11, 0), (154, 13, 12, 0), (156, 13, 21, 0), (158, 13, 22, 0), (160, 2, 91, 0), (164, 2, 90, 0), (167, 13, 20, 0), (169, 13, 25, 0), (171, 13, 26, 0), (173, 13, 19, 0), (175, 13, 18, 0), (177, 2, 144, 0), (181, 2, 95, 0), (184, 13, 23, 0), (186, 13, 24, 0), (188, 13, 6, 0), (190, 13, 7, 0)]
def zP : List (List (Nat × Nat × Nat × Nat)) := [zP0, zP1, zP2, zP3, zP4, zP5, zP6, zP7, zP8, zP9, zP10, zP11, zP12, zP13, zP14, zP15, zP16]
def zEx : List String := ["java/lang/IndexOutOfBoundsException", "java/lang/IllegalArgumentException", "java/lang/IllegalStateException"]
/-! throws: method, place, class entry, text entry, by ldc_w, constructor entry, which exception, the text -/
def zTh : List (Nat × Nat × Nat × Nat × Nat × Nat × Nat × String) := [(96, 20, 83, 85, 0, 87, 1, "no such letter"), (96, 49, 98, 100, 0, 102, 2, "the part is printed or its text is full"), (97, 18, 139, 320, 1, 143, 0, "no such piece or voice"), (104, 20, 139, 141, 0, 143, 0, "no such token"), (107, 20, 139, 327, 1, 143, 0, "no such bar or tick"), (108, 24, 83, 164, 0, 87, 1, "no such tempo"), (109, 23, 98, 174, 0, 102, 2, "the text is not right or there are too many copies"), (111, 16, 139, 187, 0, 143, 0, "no such singer"), (111, 48, 98, 196, 0, 102, 2, "the copy is lent or the singer has one of the piece"), (112, 12, 139, 324, 1, 143, 0, "no such copy"), (114, 14, 98, 212, 0, 102, 2, "the copy is not lent"), (116, 31, 139, 141, 0, 143, 0, "no such token"), (116, 54, 83, 221, 0, 87, 1, "no such kind of correction, or value for it"), (116, 104, 98, 227, 0, 102, 2, "the copy is not lent, the token not of that kind, or all corrections are used"), (122, 25, 83, 248, 0, 87, 1, "the copies are of unlike parts"), (122, 56, 98, 250, 0, 102, 2, "a copy is not right"), (123, 15, 139, 259, 1, 143, 0, "no such bar"), (124, 9, 139, 318, 1, 143, 0, "no such piece"), (128, 14, 83, 264, 1, 87, 1, "no such kind of clash"), (129, 9, 139, 270, 1, 143, 0, "no such room"), (129, 30, 83, 272, 1, 87, 1, "no such number of places"), (130, 39, 83, 277, 1, 87, 1, "no such voices or bars"), (130, 62, 98, 282, 1, 102, 2, "there are too many requests"), (131, 15, 139, 293, 1, 143, 0, "no such request"), (132, 19, 139, 259, 1, 143, 0, "no such bar"), (133, 28, 139, 322, 1, 143, 0, "no such singer, piece or voice"), (142, 13, 98, 310, 1, 102, 2, "the piece is not ready")]
def zNe : List (String × Nat × MethodName × String) := [("PartSongDesk", 23, ⟨"PartSongDesk$Corrections", "<init>", "()V"⟩, "PartSongDesk"), ("PartSongDesk", 30, ⟨"PartSongDesk$Reader", "<init>", "()V"⟩, "PartSongDesk"), ("PartSongDesk", 37, ⟨"PartSongDesk$Grammar", "<init>", "()V"⟩, "PartSongDesk"), ("PartSongDesk", 44, ⟨"PartSongDesk$Singing", "<init>", "()V"⟩, "PartSongDesk"), ("PartSongDesk$Singing", 11, ⟨"PartSongDesk$Tokens", "<init>", "()V"⟩, "PartSongDesk"), ("PartSongDesk", 51, ⟨"PartSongDesk$Tokens", "<init>", "()V"⟩, "PartSongDesk"), ("PartSongDesk", 58, ⟨"PartSongDesk$Music", "<init>", "()V"⟩, "PartSongDesk"), ("PartSongDesk", 72, ⟨"PartSongDesk$Learning", "<init>", "()V"⟩, "PartSongDesk"), ("PartSongDesk", 77, ⟨"PartSongDesk$Part", "<init>", "()V"⟩, "PartSongDesk"), ("PartSongDesk$Part", 17, ⟨"PartSongDesk$Tokens", "<init>", "()V"⟩, "PartSongDesk"), ("PartSongDesk$Part", 24, ⟨"PartSongDesk$Marks", "<init>", "()V"⟩, "PartSongDesk"), ("PartSongDesk$Part", 31, ⟨"PartSongDesk$Music", "<init>", "()V"⟩, "PartSongDesk"), ("PartSongDesk", 78, ⟨"PartSongDesk$Copy", "<init>", "()V"⟩, "PartSongDesk"), ("PartSongDesk$Copy", 17, ⟨"PartSongDesk$Marks", "<init>", "()V"⟩, "PartSongDesk"), ("PartSongDesk$Copy", 24, ⟨"PartSongDesk$Music", "<init>", "()V"⟩, "PartSongDesk")]
/-- how many methods -/
abbrev zNM : Nat := 238
